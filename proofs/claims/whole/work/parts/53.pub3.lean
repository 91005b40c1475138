/-! the public calls: law, seed, tell, feed, text -/
theorem WS_lo {S S' : Nat → Int32} {nb ng : Nat} (h : WS S nb ng) (hS : ∀ j, j < 62 → S' j = S j) : WS S' nb ng := by
  obtain ⟨w1, hn, w3, w4, w5⟩ := h
  refine ⟨by rw [hS 1 (by omega)]; exact w1, hn, by rw [hS 0 (by omega)]; exact w3, fun b hb => ?_, PR_congr w5 (fun i hi => hS _ (by omega))⟩
  obtain ⟨a1, a2, a3, a4⟩ := w4 b hb
  rw [hS (2 + 9 * b) (by omega), hS (2 + 9 * b + 1) (by omega), hS (2 + 9 * b + 2) (by omega)]
  exact ⟨a1, a2, a3, fun p hp => by rw [hS _ (by omega)]; exact a4 p hp⟩
theorem RS_lo {M M' : am_M} {t nb : Nat} {S S' : Nat → Int32} (h : RS M t S nb) (hn : nb ≤ 6) (hS : ∀ j, j < 62 → S' j = S j) (hc : ∀ a ∈ [t, t + 1, t + 2, t + 3, t + 4, t + 5], M' a = M a) : RS M' t S' nb := by
  obtain ⟨r1, r2, r3, r4, r5⟩ := h
  refine ⟨by rw [hc t (by simp), hS 1 (by omega)]; exact r1, by rw [hc t (by simp), hS 0 (by omega)]; exact r2, fun b hb => ?_, fun i hi => by rw [hc (t + 5) (by simp), hS _ (by omega)]; exact r4 i hi, RZ_c r5 (hc (t + 3) (by simp)) (hc (t + 4) (by simp))⟩
  obtain ⟨a1, a2, a3, a4⟩ := r3 b hb
  rw [hS (2 + 9 * b) (by omega), hS (2 + 9 * b + 1) (by omega), hS (2 + 9 * b + 2) (by omega), hc (t + 1) (by simp), hc (t + 2) (by simp), hc (t + 3) (by simp), hc (t + 4) (by simp)]
  exact ⟨a1, a2, a3, fun p hp => by rw [hS _ (by omega)]; exact a4 p hp⟩
theorem syG_congr {b b' : Nat → Int32} {n use : Nat} (hb : ∀ i, i < n → b' i = b i) : ∀ (k : Nat) (s : sy_S), k ≤ n → syG b' n use k s = syG b n use k s
  | 0, s, _ => rfl
  | k + 1, s, h => by
    unfold syG
    rw [hb _ (by omega)]
    cases syStep use (b (n - (k + 1))) s with
    | none => rfl
    | some s' => exact syG_congr hb k s' (by omega)
theorem TR_S3 {f g S S' : Nat → Int32} {use : Nat} (h : TR f g S use) (h65 : S' (65 + use) = S (65 + use)) (hS : ∀ i, i < 50 → S' (117 + 50 * use + i) = S (117 + 50 * use + i)) : TR f g S' use := by
  rcases h with ⟨h1, h2⟩ | ⟨n, code, hn, h1, hg, h2⟩
  · exact Or.inl ⟨h65.trans h1, h2⟩
  · refine Or.inr ⟨n, code, hn, h65.trans h1, ?_, h2⟩
    rw [syG_congr (b := fun i => S (117 + 50 * use + i)) (fun i hi => hS i (by omega)) n _ (Nat.le_refl _)]
    exact hg
theorem po_law (d : Nat) (u x y z : Int32) (M : am_M) (hI : IV M M) : PO d i11_law i12_law [.int u, .int x, .int y, .int z] M := by
  obtain ⟨nb, ng, hW, hg, hR, hD⟩ := hI.1
  have hn := hW.2.1
  have h7 : M 9 7 = nI nb := hR.1.trans hW.1
  have h8 : M 9 8 = nI ng := hR.2.1.trans hW.2.2.1
  have cB : ∀ (d' : Nat) (x : Int32) (N : am_M), N 9 7 = M 9 7 → am_call (d' + 2) i11_isBook [.ref 0, .int x] N = some (some (.int (bi (0 ≤ x.toInt ∧ x.toInt < nb))), N) := fun d' x N h => c_isBook d' x N nb (h.trans h7) hn
  have cP : ∀ (d' : Nat) (x : Int32) (N : am_M), N 9 7 = M 9 7 → am_call (d' + 2) i11_isPlace [.ref 0, .int x] N = some (some (.int (bi (0 ≤ x.toInt ∧ x.toInt < nb))), N) := fun d' x N h => c_isPlace d' x N nb (h.trans h7) hn
  have cPB : ∀ (d' : Nat) (x y : Int32) (N : am_M), N 9 7 = M 9 7 → am_call (d' + 3) i11_isPageOfBook [.ref 0, .int x, .int y] N = some (some (.int (bi ((0 ≤ x.toInt ∧ x.toInt < nb) ∧ 0 ≤ y.toInt ∧ y.toInt < 6))), N) := fun d' x y N h => c_isPageOfBook d' x y N nb (h.trans h7) hn
  have mB : ∀ (d' : Nat) (x : Int32) (N : am_M), N 69 = M 69 → am_call (d' + 2) i12_isBook [.ref 68, .int x] N = some (some (.int (bi (0 ≤ x.toInt ∧ x.toInt < nb))), N) := fun d' x N h => m_isBook d' x N nb (by rw [h]; exact hW.1) hn
  have cM2 : ∀ (d' : Nat) (x : Int32) (N : am_M), am_call (d' + 1) i11_isWithin [.int x, .int (nI 0), .int (nI 1)] N = some (some (.int (bi (0 ≤ x.toInt ∧ x.toInt < 2))), N) := fun d' x N => (cW d' x 0 1 N (by omega) (by omega)).trans (bi_out (by omega))
  have mM2 : ∀ (d' : Nat) (x : Int32) (N : am_M), am_call (d' + 1) i12_in [.long x.toInt64, .long (lN 0), .long (lN 1)] N = some (some (.int (bi (0 ≤ x.toInt ∧ x.toInt < 2))), N) := fun d' x N => (mW d' x 0 1 N (by omega) (by omega)).trans (bi_out (by omega))
  by_cases hu : 0 ≤ u.toInt ∧ u.toInt < 2
  · obtain ⟨u', hu', rfl⟩ := i32_of (n := 2) hu.1 hu.2 (by omega)
    have h2c : u' = 0 ∨ u' = 1 := by omega
    rcases h2c with rfl | rfl
    · obtain ⟨M1, a1, a2⟩ := c_merged (d + 56) M (M 69) x y z hD.2.2.2.2.2.2.2.1
      have f1 : M1 69 = M 69 := a2 69 (by decide)
      obtain ⟨M2, q1, q2⟩ := m_merged (d + 18) M1 x y z (by rw [f1]; exact TR_K hD.2.2.2.2.2.2.2.1)
      rw [f1] at q1
      refine PO_a hI (r := mgS (M 69) x y z) (M1 := M1) ?_ (Ch_mo (Ch_1 a2) (by decide)) ⟨M2, ?_, J6_mo (L := []) (J6_J q2) (by decide)⟩
      · rw [ec11_law, cM2]
        simp only [Option.bind_some, Option.toList_some, Option.toList_none, List.cons_append, List.nil_append, bi_eq0, bi_eq1, bi_nem, if_true, if_false, ite_not, Classical.not_not, sg11_law_6]
        rw [if_pos (hu), if_pos (nI_0), a1]
        simp only [Option.bind_some, Option.toList_some, Option.toList_none, List.cons_append, List.nil_append, bi_eq0, bi_eq1, bi_nem, if_true, if_false, ite_not, Classical.not_not, sg11_law_30, sg11_law_44]
      · rw [ec12_law, mM2]
        simp only [Option.bind_some, Option.toList_some, Option.toList_none, List.cons_append, List.nil_append, bi_eq0, bi_eq1, bi_nem, if_true, if_false, ite_not, Classical.not_not, sg12_law_7]
        rw [if_pos (hu), if_pos (nI_0), q1]
        simp only [Option.bind_some, Option.toList_some, Option.toList_none, List.cons_append, List.nil_append, bi_eq0, bi_eq1, bi_nem, if_true, if_false, ite_not, Classical.not_not, sg12_law_29, sg12_law_40]
    · obtain ⟨M1, a1, a2⟩ := c_sensed (d + 56) M (M 69) x y z hD.2.2.2.2.2.2.2.2
      have f1 : M1 69 = M 69 := a2 69 (by decide)
      obtain ⟨M2, q1, q2⟩ := m_senses (d + 18) M1 x y z (by rw [f1]; exact TR_K hD.2.2.2.2.2.2.2.2)
      rw [f1] at q1
      refine PO_a hI (r := snS (M 69) x y z) (M1 := M1) ?_ (Ch_mo (Ch_1 a2) (by decide)) ⟨M2, ?_, J6_mo (L := []) (J6_J q2) (by decide)⟩
      · rw [ec11_law, cM2]
        simp only [Option.bind_some, Option.toList_some, Option.toList_none, List.cons_append, List.nil_append, bi_eq0, bi_eq1, bi_nem, if_true, if_false, ite_not, Classical.not_not, sg11_law_6]
        rw [if_pos (hu), if_neg (show ¬ nI 1 = 0 by decide +kernel), a1]
        simp only [Option.bind_some, Option.toList_some, Option.toList_none, List.cons_append, List.nil_append, bi_eq0, bi_eq1, bi_nem, if_true, if_false, ite_not, Classical.not_not, sg11_law_44]
      · rw [ec12_law, mM2]
        simp only [Option.bind_some, Option.toList_some, Option.toList_none, List.cons_append, List.nil_append, bi_eq0, bi_eq1, bi_nem, if_true, if_false, ite_not, Classical.not_not, sg12_law_7]
        rw [if_pos (hu), if_neg (show ¬ nI 1 = 0 by decide +kernel), q1]
        simp only [Option.bind_some, Option.toList_some, Option.toList_none, List.cons_append, List.nil_append, bi_eq0, bi_eq1, bi_nem, if_true, if_false, ite_not, Classical.not_not, sg12_law_40]
  · refine PO_e (k := 1) hI (M1 := M) ?_ Ch_rf ⟨eC M 1, ?_, J6_rf⟩
    · rw [ec11_law, cM2]
      simp only [Option.bind_some, Option.toList_some, Option.toList_none, List.cons_append, List.nil_append, bi_eq0, bi_eq1, bi_nem, if_true, if_false, ite_not, Classical.not_not, sg11_law_6]
      rw [if_neg (hu), ce _ 1 _ (by omega)]
      simp only [Option.bind_some, Option.toList_some, Option.toList_none, List.cons_append, List.nil_append, bi_eq0, bi_eq1, bi_nem, if_true, if_false, ite_not, Classical.not_not, sg11_law_14]
    · rw [ec12_law, mM2]
      simp only [Option.bind_some, Option.toList_some, Option.toList_none, List.cons_append, List.nil_append, bi_eq0, bi_eq1, bi_nem, if_true, if_false, ite_not, Classical.not_not, sg12_law_7]
      rw [if_neg (hu), me1]
      simp only [Option.bind_some, Option.toList_some, Option.toList_none, List.cons_append, List.nil_append, bi_eq0, bi_eq1, bi_nem, if_true, if_false, ite_not, Classical.not_not, sg12_law_16]
theorem po_seed (d : Nat) (v : Int32) (M : am_M) (hI : IV M M) : PO d i11_seed i12_seed [.int v] M := by
  obtain ⟨nb, ng, hW, hg, hR, hD⟩ := hI.1
  have hn := hW.2.1
  have h7 : M 9 7 = nI nb := hR.1.trans hW.1
  have h8 : M 9 8 = nI ng := hR.2.1.trans hW.2.2.1
  have cB : ∀ (d' : Nat) (x : Int32) (N : am_M), N 9 7 = M 9 7 → am_call (d' + 2) i11_isBook [.ref 0, .int x] N = some (some (.int (bi (0 ≤ x.toInt ∧ x.toInt < nb))), N) := fun d' x N h => c_isBook d' x N nb (h.trans h7) hn
  have cP : ∀ (d' : Nat) (x : Int32) (N : am_M), N 9 7 = M 9 7 → am_call (d' + 2) i11_isPlace [.ref 0, .int x] N = some (some (.int (bi (0 ≤ x.toInt ∧ x.toInt < nb))), N) := fun d' x N h => c_isPlace d' x N nb (h.trans h7) hn
  have cPB : ∀ (d' : Nat) (x y : Int32) (N : am_M), N 9 7 = M 9 7 → am_call (d' + 3) i11_isPageOfBook [.ref 0, .int x, .int y] N = some (some (.int (bi ((0 ≤ x.toInt ∧ x.toInt < nb) ∧ 0 ≤ y.toInt ∧ y.toInt < 6))), N) := fun d' x y N h => c_isPageOfBook d' x y N nb (h.trans h7) hn
  have mB : ∀ (d' : Nat) (x : Int32) (N : am_M), N 69 = M 69 → am_call (d' + 2) i12_isBook [.ref 68, .int x] N = some (some (.int (bi (0 ≤ x.toInt ∧ x.toInt < nb))), N) := fun d' x N h => m_isBook d' x N nb (by rw [h]; exact hW.1) hn
  have hJ : J6 [30, 69] M (am_up (am_up M 30 4 v) 69 62 v) := J6_tr (J6_up (by decide) (by decide)) (J6_up (by decide) (by decide))
  refine ⟨M 69 62, am_up M 30 4 v, am_up (am_up M 30 4 v) 69 62 v, ?_, ?_, IV_S hI hJ (by decide) ⟨nb, ng, ?_, hg, ?_, ?_⟩⟩
  · rw [ec11_seed, show M 30 4 = M 69 62 from hD.2.2.2.1]
  · rw [ec12_seed, m_becomes _ _ _ _ (by omega)]
    simp only [Option.bind_some, Option.toList_some, Option.toList_none, List.cons_append, List.nil_append, bi_eq0, bi_eq1, bi_nem, if_true, if_false, ite_not, Classical.not_not, sg12_seed_7]
    rw [au_b (by decide)]
  · rw [au_69, au_b (by decide)]
    exact WS_lo hW (fun j hj => upd_ne (by omega))
  · rw [au_69, au_b (by decide)]
    exact RS_lo hR hn (fun j hj => upd_ne (by omega)) (fun a ha => J6_c hJ (by revert a; decide) (by revert a; decide))
  · rw [au_69, au_b (by decide)]
    obtain ⟨r1, r2, r3, r4, r5, r6, r7, r8, r9⟩ := hD
    refine ⟨?_, ?_, fun i hi => ?_, ?_, ?_, ?_, fun i hi => ?_, TR_S3 ?_ (upd_ne (by omega)) (fun i hi => upd_ne (by omega)), TR_S3 ?_ (upd_ne (by omega)) (fun i hi => upd_ne (by omega))⟩
    · rw [upd_ne (by omega)]; exact r1
    · rw [upd_ne (by omega), au_b (by decide), au_j (by decide)]; exact r2
    · rw [upd_ne (by omega), au_b (by decide), au_b (by decide)]; exact r3 i hi
    · rw [upd_eq, au_b (by decide), au_s]
    · rw [upd_ne (by omega)]; exact r5
    · rw [upd_ne (by omega), au_b (by decide), au_j (by decide)]; exact r6
    · rw [upd_ne (by omega), au_b (by decide), au_b (by decide)]; exact r7 i hi
    · rw [au_b (by decide), au_b (by decide), au_b (by decide), au_b (by decide)]; exact r8
    · rw [au_b (by decide), au_b (by decide), au_b (by decide), au_b (by decide)]; exact r9
theorem po_tell (d : Nat) (v : Int32) (M : am_M) (hI : IV M M) : PO d i11_tell i12_tell [.int v] M := by
  obtain ⟨nb, ng, hW, hg, hR, hD⟩ := hI.1
  have hn := hW.2.1
  have h7 : M 9 7 = nI nb := hR.1.trans hW.1
  have h8 : M 9 8 = nI ng := hR.2.1.trans hW.2.2.1
  have cB : ∀ (d' : Nat) (x : Int32) (N : am_M), N 9 7 = M 9 7 → am_call (d' + 2) i11_isBook [.ref 0, .int x] N = some (some (.int (bi (0 ≤ x.toInt ∧ x.toInt < nb))), N) := fun d' x N h => c_isBook d' x N nb (h.trans h7) hn
  have cP : ∀ (d' : Nat) (x : Int32) (N : am_M), N 9 7 = M 9 7 → am_call (d' + 2) i11_isPlace [.ref 0, .int x] N = some (some (.int (bi (0 ≤ x.toInt ∧ x.toInt < nb))), N) := fun d' x N h => c_isPlace d' x N nb (h.trans h7) hn
  have cPB : ∀ (d' : Nat) (x y : Int32) (N : am_M), N 9 7 = M 9 7 → am_call (d' + 3) i11_isPageOfBook [.ref 0, .int x, .int y] N = some (some (.int (bi ((0 ≤ x.toInt ∧ x.toInt < nb) ∧ 0 ≤ y.toInt ∧ y.toInt < 6))), N) := fun d' x y N h => c_isPageOfBook d' x y N nb (h.trans h7) hn
  have mB : ∀ (d' : Nat) (x : Int32) (N : am_M), N 69 = M 69 → am_call (d' + 2) i12_isBook [.ref 68, .int x] N = some (some (.int (bi (0 ≤ x.toInt ∧ x.toInt < nb))), N) := fun d' x N h => m_isBook d' x N nb (by rw [h]; exact hW.1) hn
  have hD0 := hD
  obtain ⟨r1, r2, r3, r4, ⟨w, hw, z⟩, r6, r7, r8, r9⟩ := hD
  by_cases h20 : w < 20
  · have hJ : J6 [30, 32, 69] M (am_up (am_up (am_up (am_up M 32 w v) 30 6 (nI (w + 1))) 69 (217 + w) v) 69 64 (nI (w + 1))) := J6_tr (J6_tr (J6_tr (J6_up (by decide) (by decide)) (J6_up (by decide) (by decide))) (J6_up (by decide) (by decide))) (J6_up (by decide) (by decide))
    have e69 : am_up (am_up (am_up (am_up M 32 w v) 30 6 (nI (w + 1))) 69 (217 + w) v) 69 64 (nI (w + 1)) 69 = upd (upd (M 69) (217 + w) v) 64 (nI (w + 1)) := by
      rw [au_69, au_69, au_b (by decide), au_b (by decide)]
    refine ⟨nI (w + 1), am_up (am_up M 32 w v) 30 6 (nI (w + 1)), _, ?_, ?_, IV_S hI hJ (by decide) ⟨nb, ng, ?_, hg, ?_, ?_⟩⟩
    · rw [ec11_tell, r6, z]
      simp (disch := omega) only [false_or, nle9, nI_dec9, nI_add, pk_mul, pk_sub, nI_clamp, nI_in9, nI_pos9, nI_lt9, nI_le9, nI_eq9, nI_eq09, nI_le09, am_k_m1, if_true, if_false, ite_not, Classical.not_not]
      rw [if_pos h20, au_s, au_b (by decide), r6, z, nI_add]
    · rw [ec12_tell, au_b (by decide), au_b (by decide), z]
      simp (disch := omega) only [false_or, nle9, nI_dec9, nI_add, pk_mul, pk_sub, nI_clamp, nI_in9, nI_pos9, nI_lt9, nI_le9, nI_eq9, nI_eq09, nI_le09, am_k_m1, if_true, if_false, ite_not, Classical.not_not]
      rw [if_neg (by omega), au_s, au_j (by omega), au_b (by decide), au_b (by decide), z, nI_add]
    · rw [e69]
      exact WS_lo hW (fun j hj => by rw [upd_ne (by omega), upd_ne (by omega)])
    · rw [e69]
      exact RS_lo hR hn (fun j hj => by rw [upd_ne (by omega), upd_ne (by omega)]) (fun a ha => J6_c hJ (by revert a; decide) (by revert a; decide))
    · rw [e69]
      refine ⟨?_, ?_, fun i hi => ?_, ?_, ⟨w + 1, by omega, upd_eq⟩, ?_, fun i hi => ?_, TR_S3 ?_ (by rw [upd_ne (by omega), upd_ne (by omega)]) (fun i hi => by rw [upd_ne (by omega), upd_ne (by omega)]), TR_S3 ?_ (by rw [upd_ne (by omega), upd_ne (by omega)]) (fun i hi => by rw [upd_ne (by omega), upd_ne (by omega)])⟩
      · rw [upd_ne (by omega), upd_ne (by omega)]; exact r1
      · rw [upd_ne (by omega), upd_ne (by omega), au_b (by decide), au_b (by decide), au_j (by decide), au_b (by decide)]; exact r2
      · rw [upd_ne (by omega), upd_ne (by omega), au_b (by decide), au_b (by decide), au_b (by decide), au_b (by decide)]; exact r3 i hi
      · rw [upd_ne (by omega), upd_ne (by omega), au_b (by decide), au_b (by decide), au_j (by decide), au_b (by decide)]; exact r4
      · rw [upd_eq, au_b (by decide), au_b (by decide), au_s]
      · rw [upd_ne (by omega), au_b (by decide), au_b (by decide), au_b (by decide)]
        by_cases c : i = w
        · subst c
          rw [upd_eq]
          exact au_s
        · rw [upd_ne (by omega)]
          exact (au_j c).trans (r7 i hi)
      · rw [au_b (by decide), au_b (by decide), au_b (by decide), au_b (by decide), au_b (by decide), au_b (by decide), au_b (by decide), au_b (by decide)]; exact r8
      · rw [au_b (by decide), au_b (by decide), au_b (by decide), au_b (by decide), au_b (by decide), au_b (by decide), au_b (by decide), au_b (by decide)]; exact r9
  · have hw20 : w = 20 := by omega
    refine PO_e (k := 4) hI (M1 := M) ?_ Ch_rf ⟨eC M 4, ?_, J6_rf⟩
    · rw [ec11_tell, r6, z]
      simp (disch := omega) only [false_or, nle9, nI_dec9, nI_add, pk_mul, pk_sub, nI_clamp, nI_in9, nI_pos9, nI_lt9, nI_le9, nI_eq9, nI_eq09, nI_le09, am_k_m1, if_true, if_false, ite_not, Classical.not_not]
      rw [if_neg h20, ce _ 4 _ (by omega)]
      simp only [Option.bind_some, Option.toList_some, Option.toList_none, List.cons_append, List.nil_append, bi_eq0, bi_eq1, bi_nem, if_true, if_false, ite_not, Classical.not_not, sg11_tell_17]
    · rw [ec12_tell, eC_b (by decide), z, hw20, if_pos rfl, me4]
      simp only [Option.bind_some, Option.toList_some, Option.toList_none, List.cons_append, List.nil_append, bi_eq0, bi_eq1, bi_nem, if_true, if_false, ite_not, Classical.not_not, sg12_tell_18]
theorem bv_fb (v : BitVec 64) (s : Nat) (hs : s ≤ 56) : v >>> s &&& 255#64 = v.sshiftRight s &&& 255#64 := by
  have hf : ∀ j, j < 64 → 8 ≤ j → (255#64).getLsbD j = false := by decide +kernel
  apply BitVec.eq_of_getLsbD_eq
  intro j hj
  rw [BitVec.getLsbD_and, BitVec.getLsbD_and]
  by_cases h : j < 8
  · have h2 : s + j < 64 := by omega
    rw [BitVec.getLsbD_ushiftRight, BitVec.getLsbD_sshiftRight, if_pos h2]
    have h3 : (!decide (64 ≤ j)) = true := by simp; omega
    rw [h3, Bool.true_and]
  · rw [hf j hj (by omega), Bool.and_false, Bool.and_false]
theorem fb_aux (y k : Int64) (s : Nat) (h1 : (k.toBitVec.smod 64#64).toNat = s) (h2 : (k.toBitVec % 64#64).toNat = s) (hs : s ≤ 56) : ((y.toUInt64 >>> k.toUInt64).toInt64 &&& lN 255) = ((y >>> k) &&& lN 255) := by
  apply Int64.toBitVec_inj.mp
  show (y.toBitVec >>> (k.toBitVec % 64#64).toNat) &&& 255#64 = (y.toBitVec.sshiftRight (k.toBitVec.smod 64#64).toNat) &&& 255#64
  rw [h1, h2]
  exact bv_fb _ s hs
def fb (y : Int64) (i : Nat) : Int32 := (((y >>> ((nI (8 * i)).toInt64 &&& 63)) &&& (lN 255))).toInt32
theorem fb_c (y : Int64) (i : Nat) (hi : i < 8) : (((y.toUInt64 >>> ((nI (8 * i)).toInt64.toUInt64 &&& Int64.toUInt64 63)).toInt64) &&& (lN 255)).toInt32 = fb y i := by
  unfold fb
  have h : i = 0 ∨ i = 1 ∨ i = 2 ∨ i = 3 ∨ i = 4 ∨ i = 5 ∨ i = 6 ∨ i = 7 := by omega
  rw [show (nI (8 * i)).toInt64.toUInt64 &&& Int64.toUInt64 63 = ((nI (8 * i)).toInt64 &&& 63).toUInt64 from rfl]
  rcases h with rfl | rfl | rfl | rfl | rfl | rfl | rfl | rfl
  · rw [fb_aux y _ 0 (by decide +kernel) (by decide +kernel) (by omega)]
  · rw [fb_aux y _ 8 (by decide +kernel) (by decide +kernel) (by omega)]
  · rw [fb_aux y _ 16 (by decide +kernel) (by decide +kernel) (by omega)]
  · rw [fb_aux y _ 24 (by decide +kernel) (by decide +kernel) (by omega)]
  · rw [fb_aux y _ 32 (by decide +kernel) (by decide +kernel) (by omega)]
  · rw [fb_aux y _ 40 (by decide +kernel) (by decide +kernel) (by omega)]
  · rw [fb_aux y _ 48 (by decide +kernel) (by decide +kernel) (by omega)]
  · rw [fb_aux y _ 56 (by decide +kernel) (by decide +kernel) (by omega)]
def fdT (f : Nat → Int32) (y : Int64) (a n j : Nat) : Int32 := if a ≤ j ∧ j < a + n then fb y (j - a) else f j
theorem fdT_0 (f : Nat → Int32) (y : Int64) (a : Nat) : fdT f y a 0 = f := funext fun j => if_neg (by omega)
theorem fdT_in {f : Nat → Int32} {y : Int64} {a n j : Nat} (h : a ≤ j ∧ j < a + n) : fdT f y a n j = fb y (j - a) := if_pos h
theorem fdT_out {f : Nat → Int32} {y : Int64} {a n j : Nat} (h : ¬ (a ≤ j ∧ j < a + n)) : fdT f y a n j = f j := if_neg h
theorem fdT_up (f : Nat → Int32) (y : Int64) (a n : Nat) : upd (fdT f y a n) (a + n) (fb y n) = fdT f y a (n + 1) := by
  funext j
  by_cases e : j = a + n
  · subst e; rw [upd_eq, fdT_in (by omega), Nat.add_sub_cancel_left]
  · rw [upd_ne e]
    by_cases c : a ≤ j ∧ j < a + n
    · rw [fdT_in c, fdT_in (by omega)]
    · rw [fdT_out c, fdT_out (by omega)]
theorem upd_sw {f : Nat → Int32} {a b : Nat} {x y z : Int32} (h : a ≠ b) : upd (upd (upd f a x) b y) a z = upd (upd f b y) a z := by
  funext j
  by_cases e : j = a
  · subst e; rw [upd_eq, upd_eq]
  · rw [upd_ne e, upd_ne e]
    by_cases c : j = b
    · subst c; rw [upd_eq, upd_eq]
    · rw [upd_ne c, upd_ne c, upd_ne e]
theorem c_feed_l (C : am_H) (y : Int64) (tl n : Nat) (hn8 : n ≤ 8) (hn : tl + n ≤ 50) (f : Nat → Int32) (M : am_M) (h1 : M 30 1 = nI tl) : ∀ (k i : Nat), i + k = n → am_lim C (am_R i11_feed) (am_tx i11_feed) 39 [.ref 0, .long y, .null, .int (nI n), .int (nI i)] [] (am_setc M 31 (fdT f y tl i)) = some (some (.int (nI (tl + n))), am_up (am_setc M 31 (fdT f y tl n)) 30 1 (nI (tl + n)))
  | 0, i, h => by
    have : i = n := by omega
    subst this
    rw [sg11_feed_39]
    simp (disch := omega) only [false_or, nle9, nI_dec9, nI_add, pk_mul, pk_sub, nI_clamp, nI_in9, nI_pos9, nI_lt9, nI_le9, nI_eq9, nI_eq09, nI_le09, am_k_m1, if_true, if_false, ite_not, Classical.not_not, stc_ne, h1]
    rw [if_neg (by omega), au_s]
  | k + 1, i, h => by
    rw [sg11_feed_39]
    simp (disch := omega) only [false_or, nle9, nI_dec9, nI_add, pk_mul, pk_sub, nI_clamp, nI_in9, nI_pos9, nI_lt9, nI_le9, nI_eq9, nI_eq09, nI_le09, am_k_m1, if_true, if_false, ite_not, Classical.not_not, stc_ne, h1]
    rw [if_pos (by omega), up_sc, fb_c y i (by omega), fdT_up]
    exact c_feed_l C y tl n hn8 hn f M h1 k (i + 1) (by omega)
theorem m_feed_l (C : am_H) (y : Int64) (tl n : Nat) (hn8 : n ≤ 8) (hn : tl + n ≤ 50) (S : Nat → Int32) (M : am_M) : ∀ (k i : Nat), i + k = n → am_lim C (am_R i12_feed) (am_tx i12_feed) 43 [.ref 68, .long y, .null, .int (nI n), .int (nI i)] [] (am_setc M 69 (upd (fdT S y (67 + tl) i) 63 (nI (tl + i)))) = some (some (.int (nI (tl + n))), am_setc M 69 (upd (fdT S y (67 + tl) n) 63 (nI (tl + n))))
  | 0, i, h => by
    have : i = n := by omega
    subst this
    rw [sg12_feed_43]
    simp (disch := omega) only [false_or, nle9, nI_dec9, nI_add, pk_mul, pk_sub, nI_clamp, nI_in9, nI_pos9, nI_lt9, nI_le9, nI_eq9, nI_eq09, nI_le09, am_k_m1, if_true, if_false, ite_not, Classical.not_not, stc_eq]
    rw [if_neg (by omega), upd_eq]
  | k + 1, i, h => by
    rw [sg12_feed_43, stc_eq, upd_eq]
    simp (disch := omega) only [false_or, nle9, nI_dec9, nI_add, pk_mul, pk_sub, nI_clamp, nI_in9, nI_pos9, nI_lt9, nI_le9, nI_eq9, nI_eq09, nI_le09, am_k_m1, if_true, if_false, ite_not, Classical.not_not]
    rw [if_pos (by omega), show (((y >>> ((nI (8 * i)).toInt64 &&& 63)) &&& (lN 255))).toInt32 = fb y i from rfl, show 67 + (tl + i) = 67 + tl + i by omega]
    simp only [up_sc, stc_sc, stc_eq]
    rw [upd_sw (by omega), upd_ne (by omega), upd_eq, nI_add, fdT_up]
    exact m_feed_l C y tl n hn8 hn S M k (i + 1) (by omega)
theorem po_feed (d : Nat) (y : Int64) (n : Int32) (M : am_M) (hI : IV M M) : PO d i11_feed i12_feed [.long y, .int n] M := by
  obtain ⟨nb, ng, hW, hg, hR, hD⟩ := hI.1
  have hn := hW.2.1
  have h7 : M 9 7 = nI nb := hR.1.trans hW.1
  have h8 : M 9 8 = nI ng := hR.2.1.trans hW.2.2.1
  have cB : ∀ (d' : Nat) (x : Int32) (N : am_M), N 9 7 = M 9 7 → am_call (d' + 2) i11_isBook [.ref 0, .int x] N = some (some (.int (bi (0 ≤ x.toInt ∧ x.toInt < nb))), N) := fun d' x N h => c_isBook d' x N nb (h.trans h7) hn
  have cP : ∀ (d' : Nat) (x : Int32) (N : am_M), N 9 7 = M 9 7 → am_call (d' + 2) i11_isPlace [.ref 0, .int x] N = some (some (.int (bi (0 ≤ x.toInt ∧ x.toInt < nb))), N) := fun d' x N h => c_isPlace d' x N nb (h.trans h7) hn
  have cPB : ∀ (d' : Nat) (x y : Int32) (N : am_M), N 9 7 = M 9 7 → am_call (d' + 3) i11_isPageOfBook [.ref 0, .int x, .int y] N = some (some (.int (bi ((0 ≤ x.toInt ∧ x.toInt < nb) ∧ 0 ≤ y.toInt ∧ y.toInt < 6))), N) := fun d' x y N h => c_isPageOfBook d' x y N nb (h.trans h7) hn
  have mB : ∀ (d' : Nat) (x : Int32) (N : am_M), N 69 = M 69 → am_call (d' + 2) i12_isBook [.ref 68, .int x] N = some (some (.int (bi (0 ≤ x.toInt ∧ x.toInt < nb))), N) := fun d' x N h => m_isBook d' x N nb (by rw [h]; exact hW.1) hn
  have cM8 : ∀ (d' : Nat) (x : Int32) (N : am_M), am_call (d' + 1) i11_isWithin [.int x, .int (nI 1), .int (nI 8)] N = some (some (.int (bi (1 ≤ x.toInt ∧ x.toInt < 9))), N) := fun d' x N => (cW d' x 1 8 N (by omega) (by omega)).trans (bi_out (by omega))
  have mM8 : ∀ (d' : Nat) (x : Int32) (N : am_M), am_call (d' + 1) i12_in [.long x.toInt64, .long (lN 1), .long (lN 8)] N = some (some (.int (bi (1 ≤ x.toInt ∧ x.toInt < 9))), N) := fun d' x N => (mW d' x 1 8 N (by omega) (by omega)).trans (bi_out (by omega))
  have hD0 := hD
  obtain ⟨⟨tl, htl, z⟩, r2, r3, r4, r5, r6, r7, r8, r9⟩ := hD
  by_cases hn8 : 1 ≤ n.toInt ∧ n.toInt < 9
  · obtain ⟨n', hn', rfl⟩ := i32_of (n := 9) (x := n) (by omega) hn8.2 (by omega)
    have hz8 : (nI n').toInt = n' := nI_toInt (by omega)
    by_cases h50 : tl + n' ≤ 50
    · have hJ : J6 [30, 31, 69] M (am_setc (am_up (am_setc M 31 (fdT (M 31) y tl n')) 30 1 (nI (tl + n'))) 69 (upd (fdT (M 69) y (67 + tl) n') 63 (nI (tl + n')))) := J6_tr (J6_tr (J6_sc (by decide) (by decide)) (J6_up (by decide) (by decide))) (J6_sc (by decide) (by decide))
      have h69 : am_up (am_setc M 31 (fdT (M 31) y tl n')) 30 1 (nI (tl + n')) 69 = M 69 := by rw [au_b (by decide), stc_ne (by decide)]
      refine ⟨nI (tl + n'), am_up (am_setc M 31 (fdT (M 31) y tl n')) 30 1 (nI (tl + n')), am_setc (am_up (am_setc M 31 (fdT (M 31) y tl n')) 30 1 (nI (tl + n'))) 69 (upd (fdT (M 69) y (67 + tl) n') 63 (nI (tl + n'))), ?_, ?_, IV_S hI hJ (by decide) ⟨nb, ng, ?_, hg, ?_, ?_⟩⟩
      · rw [ec11_feed, cM8]
        simp only [Option.bind_some, Option.toList_some, Option.toList_none, List.cons_append, List.nil_append, bi_eq0, bi_eq1, bi_nem, if_true, if_false, ite_not, Classical.not_not, sg11_feed_7]
        rw [if_pos (by omega), r2, z]
        simp (disch := omega) only [false_or, nle9, nI_dec9, nI_add, pk_mul, pk_sub, nI_clamp, nI_in9, nI_pos9, nI_lt9, nI_le9, nI_eq9, nI_eq09, nI_le09, am_k_m1, if_true, if_false, ite_not, Classical.not_not]
        rw [if_pos (h50)]
        have h := c_feed_l (am_call (d + 59)) y tl n' (by omega) h50 (M 31) M (r2.trans z) n' 0 (by omega)
        rw [fdT_0, stc_self] at h
        exact h
      · rw [ec12_feed, mM8]
        simp only [Option.bind_some, Option.toList_some, Option.toList_none, List.cons_append, List.nil_append, bi_eq0, bi_eq1, bi_nem, if_true, if_false, ite_not, Classical.not_not, sg12_feed_9]
        rw [if_pos (by omega), h69, z]
        simp (disch := omega) only [false_or, nle9, nI_dec9, nI_add, pk_mul, pk_sub, nI_clamp, nI_in9, nI_pos9, nI_lt9, nI_le9, nI_eq9, nI_eq09, nI_le09, am_k_m1, if_true, if_false, ite_not, Classical.not_not]
        rw [if_pos (h50)]
        have h := m_feed_l (am_call (d + 59)) y tl n' (by omega) h50 (M 69) (am_up (am_setc M 31 (fdT (M 31) y tl n')) 30 1 (nI (tl + n'))) n' 0 (by omega)
        have e : upd (fdT (M 69) y (67 + tl) 0) 63 (nI (tl + 0)) = am_up (am_setc M 31 (fdT (M 31) y tl n')) 30 1 (nI (tl + n')) 69 := by
          rw [h69, fdT_0, Nat.add_zero, ← z]
          funext j
          by_cases c : j = 63
          · subst c; rw [upd_eq]
          · rw [upd_ne c]
        rw [e, stc_self] at h
        exact h
      · rw [stc_eq]
        exact WS_lo hW (fun j hj => by rw [upd_ne (by omega), fdT_out (by omega)])
      · rw [stc_eq]
        exact RS_lo hR hn (fun j hj => by rw [upd_ne (by omega), fdT_out (by omega)]) (fun a ha => J6_c hJ (by revert a; decide) (by revert a; decide))
      · rw [stc_eq]
        refine ⟨⟨tl + n', h50, upd_eq⟩, ?_, fun i hi => ?_, ?_, ?_, ?_, fun i hi => ?_, TR_S3 (S := M 69) ?_ ?_ (fun i hi => ?_), TR_S3 (S := M 69) ?_ ?_ (fun i hi => ?_)⟩
        · rw [upd_eq, stc_ne (by decide), au_s]
        · rw [upd_ne (by omega), stc_ne (by decide), au_b (by decide)]
          show am_setc M 31 _ 31 i = _
          rw [stc_eq]
          by_cases c : tl ≤ i ∧ i < tl + n'
          · rw [fdT_in c, fdT_in (by omega), show 67 + i - (67 + tl) = i - tl by omega]
          · rw [fdT_out c, fdT_out (by omega)]; exact r3 i hi
        · rw [upd_ne (by omega), fdT_out (by omega), stc_ne (by decide), au_j (by decide), stc_ne (by decide)]; exact r4
        · rw [upd_ne (by omega), fdT_out (by omega)]; exact r5
        · rw [upd_ne (by omega), fdT_out (by omega), stc_ne (by decide), au_j (by decide), stc_ne (by decide)]; exact r6
        · rw [upd_ne (by omega), fdT_out (by omega), stc_ne (by decide), au_b (by decide), stc_ne (by decide)]; exact r7 i hi
        · rw [stc_ne (by decide), au_b (by decide), stc_ne (by decide), stc_ne (by decide), au_b (by decide), stc_ne (by decide)]; exact r8
        · rw [upd_ne (by omega), fdT_out (by omega)]
        · rw [upd_ne (by omega), fdT_out (by omega)]
        · rw [stc_ne (by decide), au_b (by decide), stc_ne (by decide), stc_ne (by decide), au_b (by decide), stc_ne (by decide)]; exact r9
        · rw [upd_ne (by omega), fdT_out (by omega)]
        · rw [upd_ne (by omega), fdT_out (by omega)]
    · refine PO_e (k := 4) hI (M1 := M) ?_ Ch_rf ⟨eC M 4, ?_, J6_rf⟩
      · rw [ec11_feed, cM8]
        simp only [Option.bind_some, Option.toList_some, Option.toList_none, List.cons_append, List.nil_append, bi_eq0, bi_eq1, bi_nem, if_true, if_false, ite_not, Classical.not_not, sg11_feed_7]
        rw [if_pos (by omega), r2, z]
        simp (disch := omega) only [false_or, nle9, nI_dec9, nI_add, pk_mul, pk_sub, nI_clamp, nI_in9, nI_pos9, nI_lt9, nI_le9, nI_eq9, nI_eq09, nI_le09, am_k_m1, if_true, if_false, ite_not, Classical.not_not]
        rw [ce _ 4 _ (by omega)]
        simp only [Option.bind_some, Option.toList_some, Option.toList_none, List.cons_append, List.nil_append, bi_eq0, bi_eq1, bi_nem, if_true, if_false, ite_not, Classical.not_not, sg11_feed_35]
      · rw [ec12_feed, mM8]
        simp only [Option.bind_some, Option.toList_some, Option.toList_none, List.cons_append, List.nil_append, bi_eq0, bi_eq1, bi_nem, if_true, if_false, ite_not, Classical.not_not, sg12_feed_9]
        rw [if_pos (by omega), eC_b (by decide), z]
        simp (disch := omega) only [false_or, nle9, nI_dec9, nI_add, pk_mul, pk_sub, nI_clamp, nI_in9, nI_pos9, nI_lt9, nI_le9, nI_eq9, nI_eq09, nI_le09, am_k_m1, if_true, if_false, ite_not, Classical.not_not]
        rw [me4]
        simp only [Option.bind_some, Option.toList_some, Option.toList_none, List.cons_append, List.nil_append, bi_eq0, bi_eq1, bi_nem, if_true, if_false, ite_not, Classical.not_not, sg12_feed_39]
  · refine PO_e (k := 1) hI (M1 := M) ?_ Ch_rf ⟨eC M 1, ?_, J6_rf⟩
    · rw [ec11_feed, cM8]
      simp only [Option.bind_some, Option.toList_some, Option.toList_none, List.cons_append, List.nil_append, bi_eq0, bi_eq1, bi_nem, if_true, if_false, ite_not, Classical.not_not, sg11_feed_7]
      rw [if_neg (by omega), ce _ 1 _ (by omega)]
      simp only [Option.bind_some, Option.toList_some, Option.toList_none, List.cons_append, List.nil_append, bi_eq0, bi_eq1, bi_nem, if_true, if_false, ite_not, Classical.not_not, sg11_feed_15]
    · rw [ec12_feed, mM8]
      simp only [Option.bind_some, Option.toList_some, Option.toList_none, List.cons_append, List.nil_append, bi_eq0, bi_eq1, bi_nem, if_true, if_false, ite_not, Classical.not_not, sg12_feed_9]
      rw [if_neg (by omega), me1]
      simp only [Option.bind_some, Option.toList_some, Option.toList_none, List.cons_append, List.nil_append, bi_eq0, bi_eq1, bi_nem, if_true, if_false, ite_not, Classical.not_not, sg12_feed_18]
theorem code_pos {b : Nat → Int32} {n use : Nat} {cs : List Int32} (h : syG b n use n ([], [], 0, 0, true) = .inr cs) : 0 < cs.length := by
  have ht := sy_text (b := b) (n := n) (use := use) (x := 0) (y := 0) (z := 0)
  rw [h] at ht
  by_cases hw : (rdR b n use 0 0 0).2.2 = true ∨ (rdR b n use 0 0 0).2.1 < n
  · rw [if_pos hw] at ht; cases ht
  · rw [if_neg hw] at ht
    have hcode := Sum.inr.inj ht
    have hx := (rd_ex b n use (eV 0 0 0) (16 * n + 20)).1 1 0 0 false (by omega) (by
      cases hq : (rdR b n use 0 0 0).2.2 with
      | true => exact absurd (Or.inl hq) hw
      | false => exact hq)
    have hx3 := hx []
    change ex (eV 0 0 0) (rdR b n use 0 0 0).1.2 [] = [(rdR b n use 0 0 0).1.1] at hx3
    rw [← hcode] at hx3
    cases cs with
    | nil => exact absurd hx3 (by intro q; cases q)
    | cons a l => exact Nat.succ_pos _
def cpT (S : Nat → Int32) (a n j : Nat) : Int32 := if a ≤ j ∧ j < a + n then S (67 + (j - a)) else S j
theorem cpT_0 (S : Nat → Int32) (a : Nat) : cpT S a 0 = S := funext fun j => if_neg (by omega)
theorem cpT_in {S : Nat → Int32} {a n j : Nat} (h : a ≤ j ∧ j < a + n) : cpT S a n j = S (67 + (j - a)) := if_pos h
theorem cpT_out {S : Nat → Int32} {a n j : Nat} (h : ¬ (a ≤ j ∧ j < a + n)) : cpT S a n j = S j := if_neg h
theorem cpT_up (S : Nat → Int32) (a n : Nat) : upd (cpT S a n) (a + n) (S (67 + n)) = cpT S a (n + 1) := by
  funext j
  by_cases e : j = a + n
  · subst e; rw [upd_eq, cpT_in (by omega), Nat.add_sub_cancel_left]
  · rw [upd_ne e]
    by_cases c : a ≤ j ∧ j < a + n
    · rw [cpT_in c, cpT_in (by omega)]
    · rw [cpT_out c, cpT_out (by omega)]
theorem m_text_l (C : am_H) (use tl : Nat) (hu : use ≤ 1) (htl : tl ≤ 50) (S : Nat → Int32) (hS : S 63 = nI tl) (x2 : Int32) (M : am_M) (h13 : M 68 13 = 0) : ∀ (k i : Nat), i + k = tl → am_lim C (am_R i12_text) (am_tx i12_text) 44 [.ref 68, .int (nI use), .int x2, .int (nI i)] [] (am_setc M 69 (cpT S (117 + 50 * use) i)) = some (some (.int (nI 1)), am_setc M 69 (upd (upd (cpT S (117 + 50 * use) tl) (65 + use) (nI tl)) 63 (nI 0)))
  | 0, i, h => by
    have : i = tl := by omega
    subst this
    rw [sg12_text_44, stc_eq, cpT_out (by omega), hS]
    simp (disch := omega) only [false_or, nle9, nI_dec9, nI_add, pk_mul, pk_sub, nI_clamp, nI_in9, nI_pos9, nI_lt9, nI_le9, nI_eq9, nI_eq09, nI_le09, am_k_m1, if_true, if_false, ite_not, Classical.not_not, up_sc]
    rw [if_neg (by omega), stc_ne (by decide), if_pos h13]
  | k + 1, i, h => by
    rw [sg12_text_44, stc_eq, cpT_out (by omega), hS]
    simp (disch := omega) only [false_or, nle9, nI_dec9, nI_add, pk_mul, pk_sub, nI_clamp, nI_in9, nI_pos9, nI_lt9, nI_le9, nI_eq9, nI_eq09, nI_le09, am_k_m1, if_true, if_false, ite_not, Classical.not_not, up_sc]
    rw [if_pos (by omega), cpT_out (by omega), cpT_up]
    exact m_text_l C use tl hu htl S hS x2 M h13 k (i + 1) (by omega)
theorem RD_text {M M' : am_M} {S S' : Nat → Int32} (use tl : Nat) (cs : List Int32) (hu : use ≤ 1) (hD : RD M 30 S) (htl : tl ≤ 50) (hz : S 63 = nI tl) (hS : S' = upd (upd (cpT S (117 + 50 * use) tl) (65 + use) (nI tl)) 63 (nI 0)) (hg : syG (fun i => S (67 + i)) tl use tl ([], [], 0, 0, true) = .inr cs) (hl : cs.length ≤ 50) (c1 : M' 30 1 = nI 0) (cj : ∀ j, j ≠ 1 → M' 30 j = M 30 j) (co : ∀ a ∈ [31, 32], M' a = M a) (cx : M' (33 + 4 * use) 1 = nI cs.length ∧ ∀ i v, cs[i]? = some v → M' (33 + 4 * use + 1) i = v) (cy : M' (33 + 4 * (1 - use)) = M (33 + 4 * (1 - use)) ∧ M' (33 + 4 * (1 - use) + 1) = M (33 + 4 * (1 - use) + 1)) : RD M' 30 S' := by
  subst hS
  obtain ⟨r1, r2, r3, r4, r5, r6, r7, r8, r9⟩ := hD
  have q63 : ∀ j, j < 63 ∨ (63 < j ∧ j < 65) ∨ (66 < j ∧ j < 117) ∨ 217 ≤ j → upd (upd (cpT S (117 + 50 * use) tl) (65 + use) (nI tl)) 63 (nI 0) j = S j := fun j hj => by
    rw [upd_ne (by omega), upd_ne (by omega), cpT_out (by omega)]
  have tn : TR (M' (33 + 4 * use)) (M' (33 + 4 * use + 1)) (upd (upd (cpT S (117 + 50 * use) tl) (65 + use) (nI tl)) 63 (nI 0)) use := by
    refine Or.inr ⟨tl, cs, htl, ?_, ?_, cx.1, code_pos hg, hl, cx.2⟩
    · rw [upd_ne (by omega), upd_eq]
    · rw [syG_congr (b := fun i => S (67 + i)) (fun i hi => by rw [upd_ne (by omega), upd_ne (by omega), cpT_in (by omega), Nat.add_sub_cancel_left]) tl _ (Nat.le_refl _)]
      exact hg
  have ko : ∀ v, v ≤ 1 → v ≠ use → ∀ {f g}, TR f g S v → TR f g (upd (upd (cpT S (117 + 50 * use) tl) (65 + use) (nI tl)) 63 (nI 0)) v := fun v hv hne f g h => TR_S3 h (by rw [upd_ne (by omega), upd_ne (by omega), cpT_out (by omega)]) (fun i hi => by rw [upd_ne (by omega), upd_ne (by omega), cpT_out (by omega)])
  refine ⟨⟨0, by omega, by rw [upd_eq]⟩, ?_, fun i hi => ?_, ?_, ?_, ?_, fun i hi => ?_, ?_, ?_⟩
  · rw [c1, upd_eq]
  · rw [q63 _ (by omega), co 31 (by decide)]; exact r3 i hi
  · rw [q63 _ (by omega), cj 4 (by decide)]; exact r4
  · rw [q63 _ (by omega)]; exact r5
  · rw [q63 _ (by omega), cj 6 (by decide)]; exact r6
  · rw [q63 _ (by omega), co 32 (by decide)]; exact r7 i hi
  · have h2c : use = 0 ∨ use = 1 := by omega
    rcases h2c with rfl | rfl
    · exact tn
    · refine ko 0 (by omega) (by omega) ?_
      rw [show M' (30 + 3) = M (30 + 3) from cy.1, show M' (30 + 4) = M (30 + 4) from cy.2]; exact r8
  · have h2c : use = 0 ∨ use = 1 := by omega
    rcases h2c with rfl | rfl
    · refine ko 1 (by omega) (by omega) ?_
      rw [show M' (30 + 7) = M (30 + 7) from cy.1, show M' (30 + 8) = M (30 + 8) from cy.2]; exact r9
    · exact tn
theorem c_text_cp (d use : Nat) (hu : use ≤ 1) (M : am_M) : ∃ M', (if nI use = 0 then (am_call (d + 59) i10_copyFrom [.ref 33, .ref 52] M).bind (fun q => am_lim (am_call (d + 59)) (am_R i11_text) (am_tx i11_text) 85 [.ref 0, .int (nI use), .int (-1), .ref 33] (q.1.toList ++ []) q.2) else (am_call (d + 59) i10_copyFrom [.ref 37, .ref 52] M).bind (fun q => am_lim (am_call (d + 59)) (am_R i11_text) (am_tx i11_text) 85 [.ref 0, .int (nI use), .int (-1), .ref 37] (q.1.toList ++ []) q.2)) = some (some (.int (nI 1)), M') ∧ Ch [33 + 4 * use, 33 + 4 * use + 1] M M' ∧ M' (33 + 4 * use) 1 = M 52 1 ∧ ∀ i, i < 50 → M' (33 + 4 * use + 1) i = M 53 i := by
  have h2c : use = 0 ∨ use = 1 := by omega
  rcases h2c with rfl | rfl
  · obtain ⟨M', a1, a2, a3, a4, -⟩ := c_textCopy (d + 58) 33 52 (by omega) M
    refine ⟨M', ?_, a2, a3, a4⟩
    rw [if_pos nI_0, a1]
    simp only [Option.bind_some, Option.toList_some, Option.toList_none, List.cons_append, List.nil_append, bi_eq0, bi_eq1, bi_nem, if_true, if_false, ite_not, Classical.not_not, sg11_text_85]
  · obtain ⟨M', a1, a2, a3, a4, -⟩ := c_textCopy (d + 58) 37 52 (by omega) M
    refine ⟨M', ?_, a2, a3, a4⟩
    rw [if_neg (by decide +kernel), a1]
    simp only [Option.bind_some, Option.toList_some, Option.toList_none, List.cons_append, List.nil_append, bi_eq0, bi_eq1, bi_nem, if_true, if_false, ite_not, Classical.not_not, sg11_text_85]
theorem po_text (d : Nat) (u : Int32) (M : am_M) (hI : IV M M) : PO d i11_text i12_text [.int u] M := by
  obtain ⟨nb, ng, hW, hg, hR, hD⟩ := hI.1
  have hn := hW.2.1
  have h7 : M 9 7 = nI nb := hR.1.trans hW.1
  have h8 : M 9 8 = nI ng := hR.2.1.trans hW.2.2.1
  have cB : ∀ (d' : Nat) (x : Int32) (N : am_M), N 9 7 = M 9 7 → am_call (d' + 2) i11_isBook [.ref 0, .int x] N = some (some (.int (bi (0 ≤ x.toInt ∧ x.toInt < nb))), N) := fun d' x N h => c_isBook d' x N nb (h.trans h7) hn
  have cP : ∀ (d' : Nat) (x : Int32) (N : am_M), N 9 7 = M 9 7 → am_call (d' + 2) i11_isPlace [.ref 0, .int x] N = some (some (.int (bi (0 ≤ x.toInt ∧ x.toInt < nb))), N) := fun d' x N h => c_isPlace d' x N nb (h.trans h7) hn
  have cPB : ∀ (d' : Nat) (x y : Int32) (N : am_M), N 9 7 = M 9 7 → am_call (d' + 3) i11_isPageOfBook [.ref 0, .int x, .int y] N = some (some (.int (bi ((0 ≤ x.toInt ∧ x.toInt < nb) ∧ 0 ≤ y.toInt ∧ y.toInt < 6))), N) := fun d' x y N h => c_isPageOfBook d' x y N nb (h.trans h7) hn
  have mB : ∀ (d' : Nat) (x : Int32) (N : am_M), N 69 = M 69 → am_call (d' + 2) i12_isBook [.ref 68, .int x] N = some (some (.int (bi (0 ≤ x.toInt ∧ x.toInt < nb))), N) := fun d' x N h => m_isBook d' x N nb (by rw [h]; exact hW.1) hn
  have cM2 : ∀ (d' : Nat) (x : Int32) (N : am_M), am_call (d' + 1) i11_isWithin [.int x, .int (nI 0), .int (nI 1)] N = some (some (.int (bi (0 ≤ x.toInt ∧ x.toInt < 2))), N) := fun d' x N => (cW d' x 0 1 N (by omega) (by omega)).trans (bi_out (by omega))
  have mM2 : ∀ (d' : Nat) (x : Int32) (N : am_M), am_call (d' + 1) i12_in [.long x.toInt64, .long (lN 0), .long (lN 1)] N = some (some (.int (bi (0 ≤ x.toInt ∧ x.toInt < 2))), N) := fun d' x N => (mW d' x 0 1 N (by omega) (by omega)).trans (bi_out (by omega))
  have hD0 := hD
  obtain ⟨⟨tl, htl, z⟩, r2, r3, r4, r5, r6, r7, r8, r9⟩ := hD
  by_cases hu : 0 ≤ u.toInt ∧ u.toInt < 2
  · obtain ⟨u', hu', rfl⟩ := i32_of (n := 2) hu.1 hu.2 (by omega)
    have hF := c_readFrom (d + 54) tl u' (fun i => M 69 (67 + i)) htl (by omega) M (fun j hj => r3 j (by omega))
    have hT := sy_text (b := fun i => M 69 (67 + i)) (n := tl) (use := u') (x := nI 0) (y := nI 0) (z := nI 0)
    have hm := fun (N : am_M) (h : N 69 = M 69) => m_readsText (d + 20) N 67 tl u' (nI 0) (nI 0) (nI 0) (fun i => M 69 (67 + i)) (by omega) (by omega) (fun i hi => by rw [h])
    have hle := (rd_le (fun i => M 69 (67 + i)) tl u' (eV (nI 0) (nI 0) (nI 0)) (16 * tl + 20) 1 none 0 0 false).2 (Nat.zero_le _)
    change (rdR (fun i => M 69 (67 + i)) tl u' (nI 0) (nI 0) (nI 0)).2.1 ≤ tl at hle
    generalize hR' : rdR (fun i => M 69 (67 + i)) tl u' (nI 0) (nI 0) (nI 0) = R at hT hm hle
    by_cases hwr : R.2.2 = true ∨ R.2.1 < tl
    · rw [if_pos hwr] at hT
      rw [hT] at hF
      obtain ⟨M1, a1, a2⟩ := hF
      have hb : (R.2.2 || decide (R.2.1 < tl)) = true := by
        rcases hwr with h | h
        · rw [h]; rfl
        · rw [decide_eq_true h, Bool.or_true]
      have f69 : am_up M1 30 1 (nI 0) 69 = M 69 := (au_b (by decide)).trans (a2 69 (by decide) (by decide) (by decide))
      have hP := J68_prs (am_up M1 30 1 (nI 0)) 67 tl u' (nI 0) (nI 0) (nI 0) R.2.1 0 true
      have hq := hm (am_up M1 30 1 (nI 0)) f69
      rw [hb] at hq
      have g7 : prs (tI (am_up M1 30 1 (nI 0)) 67 tl u' (nI 0) (nI 0) (nI 0)) R.2.1 0 true 68 7 = nI R.2.1 := prs_7
      have g13 : prs (tI (am_up M1 30 1 (nI 0)) 67 tl u' (nI 0) (nI 0) (nI 0)) R.2.1 0 true 68 13 = nI 1 := prs_13
      generalize prs (tI (am_up M1 30 1 (nI 0)) 67 tl u' (nI 0) (nI 0) (nI 0)) R.2.1 0 true = N at hP hq g7 g13
      have hJ : J6 [30, 52, 53, 55, 69] M (am_up N 69 63 (nI 0)) := J6_tr (J6_tr (J6_tr (Ch_J6 (fun a ha => a2 a (fun q => ha (by rw [q]; decide)) (fun q => ha (by rw [q]; decide)) (fun q => ha (by rw [q]; decide))) (by decide)) (J6_up (by decide) (by decide))) (J6_J hP)) (J6_up (by decide) (by decide))
      have N69 : N 69 = M 69 := (hP.1 69 (by decide)).trans f69
      have N30 : N 30 = upd (M 30) 1 (nI 0) := by rw [hP.1 30 (by decide), au_a, a2 30 (by decide) (by decide) (by decide)]
      refine ⟨am_k (-10) - nI R.2.1, am_up M1 30 1 (nI 0), am_up N 69 63 (nI 0), ?_, ?_, IV_S hI hJ (by decide) ⟨nb, ng, ?_, hg, ?_, ?_⟩⟩
      · rw [ec11_text, cM2]
        simp only [Option.bind_some, Option.toList_some, Option.toList_none, List.cons_append, List.nil_append, bi_eq0, bi_eq1, bi_nem, if_true, if_false, ite_not, Classical.not_not, sg11_text_6]
        rw [if_pos (hu), r2, z, a1]
        simp only [Option.bind_some, Option.toList_some, Option.toList_none, List.cons_append, List.nil_append, bi_eq0, bi_eq1, bi_nem, if_true, if_false, ite_not, Classical.not_not, sg11_text_37]
        rw [if_neg (nI_pos (by omega))]
      · rw [ec12_text, mM2]
        simp only [Option.bind_some, Option.toList_some, Option.toList_none, List.cons_append, List.nil_append, bi_eq0, bi_eq1, bi_nem, if_true, if_false, ite_not, Classical.not_not, sg12_text_7]
        rw [if_pos (hu), f69, z, hq]
        simp only [Option.bind_some, Option.toList_some, Option.toList_none, List.cons_append, List.nil_append, bi_eq0, bi_eq1, bi_nem, if_true, if_false, ite_not, Classical.not_not, sg12_text_34]
        rw [g13, if_neg (show ¬ nI 1 = 0 by decide +kernel), au_b (by decide), g13, if_neg (show ¬ nI 1 = 0 by decide +kernel), g7]
      · rw [au_69, N69]
        exact WS_lo hW (fun j hj => upd_ne (by omega))
      · rw [au_69, N69]
        exact RS_lo hR hn (fun j hj => upd_ne (by omega)) (fun a ha => J6_c hJ (by revert a; decide) (by revert a; decide))
      · rw [au_69, N69]
        have hc : ∀ a ∈ [31, 32, 33, 34, 37, 38], am_up N 69 63 (nI 0) a = M a := fun a ha => J6_c hJ (by revert a; decide) (by revert a; decide)
        refine ⟨⟨0, by omega, by rw [upd_eq]⟩, ?_, fun i hi => ?_, ?_, ?_, ?_, fun i hi => ?_, TR_S3 ?_ (upd_ne (by omega)) (fun i hi => upd_ne (by omega)), TR_S3 ?_ (upd_ne (by omega)) (fun i hi => upd_ne (by omega))⟩
        · rw [upd_eq, au_b (by decide), N30, upd_eq]
        · rw [upd_ne (by omega), hc (30 + 1) (by decide)]; exact r3 i hi
        · rw [upd_ne (by omega), au_b (by decide), N30, upd_ne (by decide)]; exact r4
        · rw [upd_ne (by omega)]; exact r5
        · rw [upd_ne (by omega), au_b (by decide), N30, upd_ne (by decide)]; exact r6
        · rw [upd_ne (by omega), hc (30 + 2) (by decide)]; exact r7 i hi
        · rw [hc (30 + 3) (by decide), hc (30 + 4) (by decide)]; exact r8
        · rw [hc (30 + 7) (by decide), hc (30 + 8) (by decide)]; exact r9
    · rw [if_neg hwr] at hT
      rw [hT] at hF
      obtain ⟨M1, a1, a2, a3, a4, a5⟩ := hF
      have hb : (R.2.2 || decide (R.2.1 < tl)) = false := by
        have h1 : ¬ R.2.1 < tl := fun q => hwr (Or.inr q)
        rw [decide_eq_false h1, Bool.or_false]
        cases hq : R.2.2 with
        | true => exact absurd (Or.inl hq) hwr
        | false => rfl
      obtain ⟨M2, b1, b2, b3, b4⟩ := c_text_cp d u' (by omega) (am_up M1 30 1 (nI 0))
      have hch2 : ∀ a, a ≠ 33 → a ≠ 34 → a ≠ 37 → a ≠ 38 → M2 a = am_up M1 30 1 (nI 0) a := fun a h1 h2 h3 h4 => b2 a (by
        have h2c : u' = 0 ∨ u' = 1 := by omega
        rcases h2c with rfl | rfl <;> simp [h1, h2, h3, h4])
      have f69 : M2 69 = M 69 := ((hch2 69 (by decide) (by decide) (by decide) (by decide)).trans (au_b (by decide))).trans (a2 69 (by decide) (by decide) (by decide))
      have hP := J68_prs M2 67 tl u' (nI 0) (nI 0) (nI 0) R.2.1 0 false
      have hq := hm M2 f69
      rw [hb] at hq
      have g13 : prs (tI M2 67 tl u' (nI 0) (nI 0) (nI 0)) R.2.1 0 false 68 13 = 0 := prs_13.trans nI_0
      generalize prs (tI M2 67 tl u' (nI 0) (nI 0) (nI 0)) R.2.1 0 false = N at hP hq g13
      have N69 : N 69 = M 69 := (hP.1 69 (by decide)).trans f69
      have hJ : J6 [30, 33, 34, 37, 38, 52, 53, 55, 69] M (am_setc N 69 (upd (upd (cpT (M 69) (117 + 50 * u') tl) (65 + u') (nI tl)) 63 (nI 0))) := J6_tr (J6_tr (J6_tr (J6_tr (Ch_J6 (fun a ha => a2 a (fun q => ha (by rw [q]; decide)) (fun q => ha (by rw [q]; decide)) (fun q => ha (by rw [q]; decide))) (by decide)) (J6_up (by decide) (by decide))) (Ch_J6 (fun a ha => hch2 a (fun q => ha (by rw [q]; decide)) (fun q => ha (by rw [q]; decide)) (fun q => ha (by rw [q]; decide)) (fun q => ha (by rw [q]; decide))) (by decide))) (J6_J hP)) (J6_sc (by decide) (by decide))
      refine ⟨nI 1, M2, am_setc N 69 (upd (upd (cpT (M 69) (117 + 50 * u') tl) (65 + u') (nI tl)) 63 (nI 0)), ?_, ?_, IV_S hI hJ (by decide) ⟨nb, ng, ?_, hg, ?_, ?_⟩⟩
      · rw [ec11_text, cM2]
        simp only [Option.bind_some, Option.toList_some, Option.toList_none, List.cons_append, List.nil_append, bi_eq0, bi_eq1, bi_nem, if_true, if_false, ite_not, Classical.not_not, sg11_text_6]
        rw [if_pos (hu), r2, z, a1]
        simp only [Option.bind_some, Option.toList_some, Option.toList_none, List.cons_append, List.nil_append, bi_eq0, bi_eq1, bi_nem, if_true, if_false, ite_not, Classical.not_not, sg11_text_37]
        rw [if_pos (by decide +kernel)]
        exact b1
      · rw [ec12_text, mM2]
        simp only [Option.bind_some, Option.toList_some, Option.toList_none, List.cons_append, List.nil_append, bi_eq0, bi_eq1, bi_nem, if_true, if_false, ite_not, Classical.not_not, sg12_text_7]
        rw [if_pos (hu), f69, z, hq]
        simp only [Option.bind_some, Option.toList_some, Option.toList_none, List.cons_append, List.nil_append, bi_eq0, bi_eq1, bi_nem, if_true, if_false, ite_not, Classical.not_not, sg12_text_34]
        rw [if_pos (g13)]
        have h := m_text_l (am_call (d + 59)) u' tl (by omega) htl (M 69) z R.1.1 N g13 tl 0 (by omega)
        rw [cpT_0, ← N69, stc_self, N69] at h
        exact h
      · rw [stc_eq]
        exact WS_lo hW (fun j hj => by rw [upd_ne (by omega), upd_ne (by omega), cpT_out (by omega)])
      · rw [stc_eq]
        exact RS_lo hR hn (fun j hj => by rw [upd_ne (by omega), upd_ne (by omega), cpT_out (by omega)]) (fun a ha => J6_c hJ (by revert a; decide) (by revert a; decide))
      · rw [stc_eq]
        have gN : ∀ a, a ≠ 69 → a ≠ 68 → am_setc N 69 (upd (upd (cpT (M 69) (117 + 50 * u') tl) (65 + u') (nI tl)) 63 (nI 0)) a = M2 a := fun a h1 h2 => (stc_ne h1).trans (hP.1 a h2)
        have g30 : M2 30 = upd (M 30) 1 (nI 0) := by rw [hch2 30 (by decide) (by decide) (by decide) (by decide), au_a, a2 30 (by decide) (by decide) (by decide)]
        refine RD_text u' tl R.1.2 (by omega) hD0 htl z rfl ?_ a4 ?_ (fun j hj => ?_) (fun a ha => J6_c hJ (by revert a; decide) (by revert a; decide)) ⟨?_, fun i v hi => ?_⟩ ⟨?_, ?_⟩
        · exact hT
        · rw [gN 30 (by decide) (by decide), g30, upd_eq]
        · rw [gN 30 (by decide) (by decide), g30, upd_ne hj]
        · rw [gN _ (by omega) (by omega), b3, au_b (by decide)]; exact a3
        · have := (List.getElem?_eq_some_iff.mp hi).1
          rw [gN _ (by omega) (by omega), b4 i (by omega), au_b (by decide)]; exact a5 i v hi
        · rw [gN _ (by omega) (by omega), b2 _ (by simp; omega), au_b (by omega)]; exact a2 _ (by omega) (by omega) (by omega)
        · rw [gN _ (by omega) (by omega), b2 _ (by simp; omega), au_b (by omega)]; exact a2 _ (by omega) (by omega) (by omega)
  · refine PO_e (k := 1) hI (M1 := M) ?_ Ch_rf ⟨eC M 1, ?_, J6_rf⟩
    · rw [ec11_text, cM2]
      simp only [Option.bind_some, Option.toList_some, Option.toList_none, List.cons_append, List.nil_append, bi_eq0, bi_eq1, bi_nem, if_true, if_false, ite_not, Classical.not_not, sg11_text_6]
      rw [if_neg (hu), ce _ 1 _ (by omega)]
      simp only [Option.bind_some, Option.toList_some, Option.toList_none, List.cons_append, List.nil_append, bi_eq0, bi_eq1, bi_nem, if_true, if_false, ite_not, Classical.not_not, sg11_text_14]
    · rw [ec12_text, mM2]
      simp only [Option.bind_some, Option.toList_some, Option.toList_none, List.cons_append, List.nil_append, bi_eq0, bi_eq1, bi_nem, if_true, if_false, ite_not, Classical.not_not, sg12_text_7]
      rw [if_neg (hu), me1]
      simp only [Option.bind_some, Option.toList_some, Option.toList_none, List.cons_append, List.nil_append, bi_eq0, bi_eq1, bi_nem, if_true, if_false, ite_not, Classical.not_not, sg12_text_16]
