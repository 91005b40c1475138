/-! the public calls: when, still, round, place, check -/
theorem c_when_l (d nb ng b p : Nat) (hg : ng ≤ 9999) (hb : b < nb) (hp : p < 6) (v : Int32) (S : Nat → Int32) (hW : WS S nb ng) : ∀ (k i : Nat) (M : am_M), i + k = 201 → RS M 23 (goS S nb ng 0 i) nb → TR (M 33) (M 34) S 0 → ∃ M', am_lim (am_call (d + 4)) (am_R i11_when) (am_tx i11_when) 36 [.ref 0, .int (nI b), .int (nI p), .int v, .int (nI i)] [] M = oC (fst1 (fun j => decide (goS S nb ng 0 j (2 + 9 * b + (3 + p)) = v)) i k) 2 M' ∧ Ch [23, 27, 29, 35] M M'
  | 0, i, M, h, hR, hT => by
    have : i = 201 := by omega
    subst this
    rw [sg11_when_36, if_neg (by decide +kernel), ce _ 2 _ (by omega)]
    simp only [Option.bind_some, Option.toList_some, Option.toList_none, List.cons_append, List.nil_append, bi_eq0, bi_eq1, bi_nem, if_true, if_false, ite_not, Classical.not_not, sg11_when_84]
    exact ⟨M, rfl, Ch_rf⟩
  | k + 1, i, M, h, hR, hT => by
    have hn := hW.2.1
    rw [sg11_when_36]
    simp (disch := omega) only [false_or, nle9, nI_dec9, nI_add, pk_mul, pk_sub, nI_clamp, nI_in9, nI_pos9, nI_lt9, nI_le9, nI_eq9, nI_eq09, nI_le09, am_k_m1, if_true, if_false, ite_not, Classical.not_not]
    rw [if_pos (by omega), c_said (d + 3) 23 (by omega) b p M (by omega)]
    simp only [Option.bind_some, Option.toList_some, Option.toList_none, List.cons_append, List.nil_append, bi_eq0, bi_eq1, bi_nem, if_true, if_false, ite_not, Classical.not_not, sg11_when_53]
    rw [(hR.2.2.1 b hb).2.2.2 p hp]
    by_cases c : goS S nb ng 0 i (2 + 9 * b + (3 + p)) = v
    · rw [if_pos c, fst1_t (decide_eq_true c)]
      exact ⟨M, rfl, Ch_rf⟩
    · rw [if_neg c, fst1_f (by rw [decide_eq_false c]; decide)]
      obtain ⟨M1, a1, a2, a3⟩ := c_passNight d 23 nb (ng + i) 0 (by omega) (goS S nb ng 0 i) (goS_WS hW i) (by omega) (by omega) M hR (TR_S (by omega) hT (fun j hj => goS_hi hW (by omega) i))
      rw [a1]
      simp only [Option.bind_some, Option.toList_some, Option.toList_none, List.cons_append, List.nil_append, bi_eq0, bi_eq1, bi_nem, if_true, if_false, ite_not, Classical.not_not, sg11_when_72]
      rw [nI_add]
      obtain ⟨M2, b1, b2⟩ := c_when_l d nb ng b p hg hb hp v S hW k (i + 1) M1 (by omega) a2 (by rw [a3 33 (by decide), a3 34 (by decide)]; exact hT)
      exact ⟨M2, b1, Ch_tr a3 b2⟩
theorem m_when_l (d nb ng b p : Nat) (hg : ng ≤ 9999) (hb : b < nb) (hp : p < 6) (v : Int32) (S : Nat → Int32) (hW : WS S nb ng) (hK : txK S 0) : ∀ (k i : Nat) (M : am_M), i + k = 201 → M 69 = goS S nb ng 0 i → AS M S → ∃ M', am_lim (am_call (d + 42)) (am_R i12_when) (am_tx i12_when) 36 [.ref 68, .int (nI b), .int (nI p), .int v, .int (nI i), .null] [] M = oM (fst1 (fun j => decide (goS S nb ng 0 j (2 + 9 * b + (3 + p)) = v)) i k) 2 M' ∧ M' 69 = S ∧ J6 [69, 73] M M'
  | 0, i, M, h, hM, hA => by
    have : i = 201 := by omega
    subst this
    rw [sg12_when_36, if_neg (by decide +kernel)]
    obtain ⟨M1, a1, a2, a3⟩ := m_back (d + 41) (nI 201) S M hA (fun j hj => by rw [hM]; exact goS_hi hW (by omega) 201)
    rw [a1]
    simp only [Option.bind_some, Option.toList_some, Option.toList_none, List.cons_append, List.nil_append, bi_eq0, bi_eq1, bi_nem, if_true, if_false, ite_not, Classical.not_not, sg12_when_71]
    rw [if_neg (by decide +kernel), me2]
    simp only [Option.bind_some, Option.toList_some, Option.toList_none, List.cons_append, List.nil_append, bi_eq0, bi_eq1, bi_nem, if_true, if_false, ite_not, Classical.not_not, sg12_when_87]
    exact ⟨M1, rfl, a2, J6_mo a3 (by decide)⟩
  | k + 1, i, M, h, hM, hA => by
    have hn := hW.2.1
    rw [sg12_when_36]
    simp (disch := omega) only [false_or, nle9, nI_dec9, nI_add, pk_mul, pk_sub, nI_clamp, nI_in9, nI_pos9, nI_lt9, nI_le9, nI_eq9, nI_eq09, nI_le09, am_k_m1, if_true, if_false, ite_not, Classical.not_not]
    rw [if_pos (by omega), m_pageAt _ b p M (by omega)]
    simp only [Option.bind_some, Option.toList_some, Option.toList_none, List.cons_append, List.nil_append, bi_eq0, bi_eq1, bi_nem, if_true, if_false, ite_not, Classical.not_not, sg12_when_50]
    by_cases c : goS S nb ng 0 i (2 + 9 * b + (3 + p)) = v
    · rw [hM, if_pos c, fst1_t (decide_eq_true c)]
      obtain ⟨M1, a1, a2, a3⟩ := m_back (d + 41) (nI i) S M hA (fun j hj => by rw [hM]; exact goS_hi hW (by omega) i)
      rw [a1]
      simp only [Option.bind_some, Option.toList_some, Option.toList_none, List.cons_append, List.nil_append, bi_eq0, bi_eq1, bi_nem, if_true, if_false, ite_not, Classical.not_not, sg12_when_71]
      simp (disch := omega) only [false_or, nle9, nI_dec9, nI_add, pk_mul, pk_sub, nI_clamp, nI_in9, nI_pos9, nI_lt9, nI_le9, nI_eq9, nI_eq09, nI_le09, am_k_m1, if_true, if_false, ite_not, Classical.not_not]
      rw [if_pos (by omega)]
      exact ⟨M1, rfl, a2, J6_mo a3 (by decide)⟩
    · rw [hM, if_neg c, fst1_f (by rw [decide_eq_false c]; decide), pn0]
      obtain ⟨M1, a1, a2, a3, a4⟩ := m_night d nb (ng + i) 0 (by omega) (by omega) M (hM ▸ goS_WS hW i) (txK_S hK (fun j hj => by rw [hM]; exact goS_hi hW (by omega) i))
      rw [a1]
      simp only [Option.bind_some, Option.toList_some, Option.toList_none, List.cons_append, List.nil_append, bi_eq0, bi_eq1, bi_nem, if_true, if_false, ite_not, Classical.not_not, sg12_when_59]
      rw [nI_add]
      obtain ⟨M2, b1, b2, b3⟩ := m_when_l d nb ng b p hg hb hp v S hW hK k (i + 1) M1 (by omega) (by rw [a2, hM]; rfl) (AS_J hA a4 (by decide))
      exact ⟨M2, b1, b2, J6_tr a4 b3⟩
theorem po_when (d : Nat) (b p v : Int32) (M : am_M) (hI : IV M M) : PO d i11_when i12_when [.int b, .int p, .int v] M := by
  obtain ⟨nb, ng, hW, hg, hR, hD⟩ := hI.1
  have hn := hW.2.1
  have h7 : M 9 7 = nI nb := hR.1.trans hW.1
  have h8 : M 9 8 = nI ng := hR.2.1.trans hW.2.2.1
  have cB : ∀ (d' : Nat) (x : Int32) (N : am_M), N 9 7 = M 9 7 → am_call (d' + 2) i11_isBook [.ref 0, .int x] N = some (some (.int (bi (0 ≤ x.toInt ∧ x.toInt < nb))), N) := fun d' x N h => c_isBook d' x N nb (h.trans h7) hn
  have cP : ∀ (d' : Nat) (x : Int32) (N : am_M), N 9 7 = M 9 7 → am_call (d' + 2) i11_isPlace [.ref 0, .int x] N = some (some (.int (bi (0 ≤ x.toInt ∧ x.toInt < nb))), N) := fun d' x N h => c_isPlace d' x N nb (h.trans h7) hn
  have cPB : ∀ (d' : Nat) (x y : Int32) (N : am_M), N 9 7 = M 9 7 → am_call (d' + 3) i11_isPageOfBook [.ref 0, .int x, .int y] N = some (some (.int (bi ((0 ≤ x.toInt ∧ x.toInt < nb) ∧ 0 ≤ y.toInt ∧ y.toInt < 6))), N) := fun d' x y N h => c_isPageOfBook d' x y N nb (h.trans h7) hn
  have mB : ∀ (d' : Nat) (x : Int32) (N : am_M), N 69 = M 69 → am_call (d' + 2) i12_isBook [.ref 68, .int x] N = some (some (.int (bi (0 ≤ x.toInt ∧ x.toInt < nb))), N) := fun d' x N h => m_isBook d' x N nb (by rw [h]; exact hW.1) hn
  by_cases hb : 0 ≤ b.toInt ∧ b.toInt < nb
  · by_cases hp : 0 ≤ p.toInt ∧ p.toInt < 6
    · by_cases hv : 0 ≤ v.toInt ∧ v.toInt < 100
      · obtain ⟨b', hb', rfl⟩ := i32_of (n := nb) hb.1 hb.2 (by omega)
        obtain ⟨p', hp', rfl⟩ := i32_of (n := 6) hp.1 hp.2 (by omega)
        obtain ⟨M1, a1, a2, a3⟩ := c_copyFrom (d + 58) 23 9 nb ng (by omega) (M 69) hW M hR
        have tr1 : TR (M1 33) (M1 34) (M 69) 0 := by rw [a3 33 (by decide), a3 34 (by decide)]; exact hD.2.2.2.2.2.2.2.1
        obtain ⟨M2, b1, b2⟩ := c_when_l (d + 55) nb ng b' p' hg hb' hp' v (M 69) hW 201 0 M1 rfl a2 tr1
        refine PO_o (e := 2) (M1 := M2) (fst1 (fun j => decide (goS (M 69) nb ng 0 j (2 + 9 * b' + (3 + p')) = v)) 0 201) hI ?_ (Ch_tr (Ch_mo a3 (by decide)) (Ch_mo b2 (by decide))) (fun N hN => ?_)
        · rw [ec11_when, cPB _ _ _ _ rfl]
          simp only [Option.bind_some, Option.toList_some, Option.toList_none, List.cons_append, List.nil_append, bi_eq0, bi_eq1, bi_nem, if_true, if_false, ite_not, Classical.not_not, sg11_when_6]
          rw [if_pos (⟨hb, hp⟩), c_isSaid]
          simp only [Option.bind_some, Option.toList_some, Option.toList_none, List.cons_append, List.nil_append, bi_eq0, bi_eq1, bi_nem, if_true, if_false, ite_not, Classical.not_not, sg11_when_13]
          rw [if_pos (hv), a1]
          simp only [Option.bind_some, Option.toList_some, Option.toList_none, List.cons_append, List.nil_append, bi_eq0, bi_eq1, bi_nem, if_true, if_false, ite_not, Classical.not_not, sg11_when_33]
          exact b1
        · have f69 : N 69 = M 69 := hN 69 (by decide)
          obtain ⟨N1, q1, q2, q3⟩ := m_lays (d + 58) N
          rw [f69] at q2
          have g69 : N1 69 = M 69 := (q3.1 69 (by decide) (by decide)).trans f69
          obtain ⟨N2, s1, s2, s3⟩ := m_when_l (d + 17) nb ng b' p' hg hb' hp' v (M 69) hW (TR_K hD.2.2.2.2.2.2.2.1) 201 0 N1 rfl g69 q2
          refine ⟨N2, ?_, J6_69 (J6_tr (J6_mo q3 (by decide)) (J6_mo s3 (by decide))) (s2.trans f69.symm)⟩
          rw [ec12_when, mB _ _ _ f69]
          simp only [Option.bind_some, Option.toList_some, Option.toList_none, List.cons_append, List.nil_append, bi_eq0, bi_eq1, bi_nem, if_true, if_false, ite_not, Classical.not_not, sg12_when_5]
          rw [if_pos (hb), m_isPage]
          simp only [Option.bind_some, Option.toList_some, Option.toList_none, List.cons_append, List.nil_append, bi_eq0, bi_eq1, bi_nem, if_true, if_false, ite_not, Classical.not_not, sg12_when_12]
          rw [if_pos (hp), m_isSaid]
          simp only [Option.bind_some, Option.toList_some, Option.toList_none, List.cons_append, List.nil_append, bi_eq0, bi_eq1, bi_nem, if_true, if_false, ite_not, Classical.not_not, sg12_when_19]
          rw [if_pos (hv), q1]
          simp only [Option.bind_some, Option.toList_some, Option.toList_none, List.cons_append, List.nil_append, bi_eq0, bi_eq1, bi_nem, if_true, if_false, ite_not, Classical.not_not, sg12_when_33]
          exact s1
      · refine PO_e (k := 1) hI (M1 := M) ?_ Ch_rf ⟨eC M 1, ?_, J6_rf⟩
        · rw [ec11_when, cPB _ _ _ _ rfl]
          simp only [Option.bind_some, Option.toList_some, Option.toList_none, List.cons_append, List.nil_append, bi_eq0, bi_eq1, bi_nem, if_true, if_false, ite_not, Classical.not_not, sg11_when_6]
          rw [if_pos (⟨hb, hp⟩), c_isSaid]
          simp only [Option.bind_some, Option.toList_some, Option.toList_none, List.cons_append, List.nil_append, bi_eq0, bi_eq1, bi_nem, if_true, if_false, ite_not, Classical.not_not, sg11_when_13]
          rw [if_neg (hv), ce _ 1 _ (by omega)]
          simp only [Option.bind_some, Option.toList_some, Option.toList_none, List.cons_append, List.nil_append, bi_eq0, bi_eq1, bi_nem, if_true, if_false, ite_not, Classical.not_not, sg11_when_21]
        · rw [ec12_when, mB _ _ _ (eC_b (by decide))]
          simp only [Option.bind_some, Option.toList_some, Option.toList_none, List.cons_append, List.nil_append, bi_eq0, bi_eq1, bi_nem, if_true, if_false, ite_not, Classical.not_not, sg12_when_5]
          rw [if_pos (hb), m_isPage]
          simp only [Option.bind_some, Option.toList_some, Option.toList_none, List.cons_append, List.nil_append, bi_eq0, bi_eq1, bi_nem, if_true, if_false, ite_not, Classical.not_not, sg12_when_12]
          rw [if_pos (hp), m_isSaid]
          simp only [Option.bind_some, Option.toList_some, Option.toList_none, List.cons_append, List.nil_append, bi_eq0, bi_eq1, bi_nem, if_true, if_false, ite_not, Classical.not_not, sg12_when_19]
          rw [if_neg (hv), me1]
          simp only [Option.bind_some, Option.toList_some, Option.toList_none, List.cons_append, List.nil_append, bi_eq0, bi_eq1, bi_nem, if_true, if_false, ite_not, Classical.not_not, sg12_when_28]
    · refine PO_e (k := 1) hI (M1 := M) ?_ Ch_rf ⟨eC M 1, ?_, J6_rf⟩
      · rw [ec11_when, cPB _ _ _ _ rfl]
        simp only [Option.bind_some, Option.toList_some, Option.toList_none, List.cons_append, List.nil_append, bi_eq0, bi_eq1, bi_nem, if_true, if_false, ite_not, Classical.not_not, sg11_when_6]
        rw [if_neg (fun q => hp q.2), ce _ 1 _ (by omega)]
        simp only [Option.bind_some, Option.toList_some, Option.toList_none, List.cons_append, List.nil_append, bi_eq0, bi_eq1, bi_nem, if_true, if_false, ite_not, Classical.not_not, sg11_when_21]
      · rw [ec12_when, mB _ _ _ (eC_b (by decide))]
        simp only [Option.bind_some, Option.toList_some, Option.toList_none, List.cons_append, List.nil_append, bi_eq0, bi_eq1, bi_nem, if_true, if_false, ite_not, Classical.not_not, sg12_when_5]
        rw [if_pos (hb), m_isPage]
        simp only [Option.bind_some, Option.toList_some, Option.toList_none, List.cons_append, List.nil_append, bi_eq0, bi_eq1, bi_nem, if_true, if_false, ite_not, Classical.not_not, sg12_when_12]
        rw [if_neg (hp), me1]
        simp only [Option.bind_some, Option.toList_some, Option.toList_none, List.cons_append, List.nil_append, bi_eq0, bi_eq1, bi_nem, if_true, if_false, ite_not, Classical.not_not, sg12_when_28]
  · refine PO_e (k := 1) hI (M1 := M) ?_ Ch_rf ⟨eC M 1, ?_, J6_rf⟩
    · rw [ec11_when, cPB _ _ _ _ rfl]
      simp only [Option.bind_some, Option.toList_some, Option.toList_none, List.cons_append, List.nil_append, bi_eq0, bi_eq1, bi_nem, if_true, if_false, ite_not, Classical.not_not, sg11_when_6]
      rw [if_neg (fun q => hb q.1), ce _ 1 _ (by omega)]
      simp only [Option.bind_some, Option.toList_some, Option.toList_none, List.cons_append, List.nil_append, bi_eq0, bi_eq1, bi_nem, if_true, if_false, ite_not, Classical.not_not, sg11_when_21]
    · rw [ec12_when, mB _ _ _ (eC_b (by decide))]
      simp only [Option.bind_some, Option.toList_some, Option.toList_none, List.cons_append, List.nil_append, bi_eq0, bi_eq1, bi_nem, if_true, if_false, ite_not, Classical.not_not, sg12_when_5]
      rw [if_neg (hb), me1]
      simp only [Option.bind_some, Option.toList_some, Option.toList_none, List.cons_append, List.nil_append, bi_eq0, bi_eq1, bi_nem, if_true, if_false, ite_not, Classical.not_not, sg12_when_28]
/-- still: from night n on, q nights unchanged before it -/
def stF (ch : Nat → Bool) : Nat → Nat → Nat → Option Nat
  | 0, _, _ => none
  | k + 1, n, q => if ch n = true then stF ch k (n + 1) 0 else if q = 5 then some (n + 1 - 6) else stF ch k (n + 1) (q + 1)
abbrev chN (S : Nat → Int32) (nb ng : Nat) : Nat → Bool := fun j => chB (goS S nb ng 0 j) nb ((ng + j) % 6) 0 nb
theorem c_still_l (d nb ng : Nat) (hg : ng ≤ 9999) (S : Nat → Int32) (hW : WS S nb ng) : ∀ (k n q : Nat) (w : Value) (M : am_M), n + k = 206 → q ≤ 5 → q ≤ n → RS M 23 (goS S nb ng 0 n) nb → TR (M 33) (M 34) S 0 → ∃ M', am_lim (am_call (d + 4)) (am_R i11_still) (am_tx i11_still) 15 [.ref 0, .int (nI q), .int (nI (n + 1)), w] [] M = oC (stF (chN S nb ng) k n q) 2 M' ∧ Ch [23, 27, 29, 35] M M'
  | 0, n, q, w, M, h, hq, hqn, hR, hT => by
    have : n = 206 := by omega
    subst this
    rw [sg11_still_15, if_neg (by decide +kernel), ce _ 2 _ (by omega)]
    simp only [Option.bind_some, Option.toList_some, Option.toList_none, List.cons_append, List.nil_append, bi_eq0, bi_eq1, bi_nem, if_true, if_false, ite_not, Classical.not_not, sg11_still_69]
    exact ⟨M, rfl, Ch_rf⟩
  | k + 1, n, q, w, M, h, hq, hqn, hR, hT => by
    have hn := hW.2.1
    rw [sg11_still_15]
    simp (disch := omega) only [false_or, nle9, nI_dec9, nI_add, pk_mul, pk_sub, nI_clamp, nI_in9, nI_pos9, nI_lt9, nI_le9, nI_eq9, nI_eq09, nI_le09, am_k_m1, if_true, if_false, ite_not, Classical.not_not]
    rw [if_pos (by omega)]
    obtain ⟨M1, a1, a2, a3⟩ := c_passNight d 23 nb (ng + n) 0 (by omega) (goS S nb ng 0 n) (goS_WS hW n) (by omega) (by omega) M hR (TR_S (by omega) hT (fun j hj => goS_hi hW (by omega) n))
    rw [a1]
    simp only [Option.bind_some, Option.toList_some, Option.toList_none, List.cons_append, List.nil_append, bi_eq0, bi_eq1, bi_nem, if_true, if_false, ite_not, Classical.not_not, sg11_still_34]
    have hT1 : TR (M1 33) (M1 34) S 0 := by rw [a3 33 (by decide), a3 34 (by decide)]; exact hT
    have hst : stF (chN S nb ng) (k + 1) n q = if chB (goS S nb ng 0 n) nb ((ng + n) % 6) 0 nb = true then stF (chN S nb ng) k (n + 1) 0 else if q = 5 then some (n + 1 - 6) else stF (chN S nb ng) k (n + 1) (q + 1) := rfl
    rw [hst]
    generalize hcc : chB (goS S nb ng 0 n) nb ((ng + n) % 6) 0 nb = cc
    cases cc with
    | true =>
      rw [if_neg (by decide +kernel), if_neg (by decide +kernel), if_pos rfl, nI_add]
      obtain ⟨M2, b1, b2⟩ := c_still_l d nb ng hg S hW k (n + 1) 0 (.int (cb true)) M1 (by omega) (by omega) (by omega) a2 hT1
      exact ⟨M2, b1, Ch_tr a3 b2⟩
    | false =>
      rw [if_pos (by decide +kernel), if_neg (show ¬ (false = true) by decide)]
      simp (disch := omega) only [false_or, nle9, nI_dec9, nI_add, pk_mul, pk_sub, nI_clamp, nI_in9, nI_pos9, nI_lt9, nI_le9, nI_eq9, nI_eq09, nI_le09, am_k_m1, if_true, if_false, ite_not, Classical.not_not]
      by_cases c : q = 5
      · rw [if_pos (by omega), if_pos c]
        exact ⟨M1, rfl, a3⟩
      · rw [if_neg (by omega), if_neg c]
        obtain ⟨M2, b1, b2⟩ := c_still_l d nb ng hg S hW k (n + 1) (q + 1) (.int (cb false)) M1 (by omega) (by omega) (by omega) a2 hT1
        exact ⟨M2, b1, Ch_tr a3 b2⟩
theorem m_marks_l (d nb ng : Nat) (hg : ng < 2147483648) (S : Nat → Int32) (hW : WS S nb ng) : ∀ (k i : Nat) (M : am_M), i + k = nb → M 69 = S → (∀ b, b < i → M 74 b = S (2 + 9 * b + (3 + ng % 6))) → ∃ M', am_lim (am_call (d + 2)) (am_R i12_marks) (am_tx i12_marks) 2 [.ref 68, .int (nI i)] [] M = some (none, M') ∧ (∀ b, b < nb → M' 74 b = S (2 + 9 * b + (3 + ng % 6))) ∧ J6 [74] M M'
  | 0, i, M, h, hM, h74 => by
    have : i = nb := by omega
    subst this
    have hn := hW.2.1
    rw [sg12_marks_2, hM, hW.1]
    simp (disch := omega) only [false_or, nle9, nI_dec9, nI_add, pk_mul, pk_sub, nI_clamp, nI_in9, nI_pos9, nI_lt9, nI_le9, nI_eq9, nI_eq09, nI_le09, am_k_m1, if_true, if_false, ite_not, Classical.not_not]
    rw [if_neg (by omega)]
    exact ⟨M, rfl, h74, J6_rf⟩
  | k + 1, i, M, h, hM, h74 => by
    have hn := hW.2.1
    have h6 : ng % 6 < 6 := Nat.mod_lt _ (by omega)
    rw [sg12_marks_2, hM, hW.1, hW.2.2.1, pk_rem (by omega) (by omega) (by omega)]
    simp (disch := omega) only [false_or, nle9, nI_dec9, nI_add, pk_mul, pk_sub, nI_clamp, nI_in9, nI_pos9, nI_lt9, nI_le9, nI_eq9, nI_eq09, nI_le09, am_k_m1, if_true, if_false, ite_not, Classical.not_not]
    rw [if_pos (by omega), m_pageAt _ i (ng % 6) M (by omega)]
    simp only [Option.bind_some, Option.toList_some, Option.toList_none, List.cons_append, List.nil_append, bi_eq0, bi_eq1, bi_nem, if_true, if_false, ite_not, Classical.not_not, sg12_marks_31]
    simp (disch := omega) only [false_or, nle9, nI_dec9, nI_add, pk_mul, pk_sub, nI_clamp, nI_in9, nI_pos9, nI_lt9, nI_le9, nI_eq9, nI_eq09, nI_le09, am_k_m1, if_true, if_false, ite_not, Classical.not_not]
    obtain ⟨M2, b1, b2, b3⟩ := m_marks_l d nb ng hg S hW k (i + 1) (am_up M 74 i (M 69 (2 + 9 * i + (3 + ng % 6)))) (by omega) (by rw [au_b (by decide)]; exact hM) (fun b hb => by
      by_cases c : b = i
      · subst c; rw [au_s, hM]
      · rw [au_j c]; exact h74 b (by omega))
    exact ⟨M2, b1, b2, J6_tr (J6_up (by decide) (by decide)) b3⟩
def dfB (F G : Nat → Int32) : Nat → Bool
  | 0 => false
  | k + 1 => dfB F G k || !(decide (F k = G k))
theorem dfB_iff (F G : Nat → Int32) : ∀ k, dfB F G k = true ↔ ∃ b, b < k ∧ F b ≠ G b
  | 0 => ⟨fun h => (by cases h), fun ⟨b, h, _⟩ => absurd h (by omega)⟩
  | k + 1 => by
    show (dfB F G k || !(decide (F k = G k))) = true ↔ _
    rw [Bool.or_eq_true, dfB_iff F G k]
    constructor
    · rintro (⟨b, h1, h2⟩ | h)
      · exact ⟨b, by omega, h2⟩
      · exact ⟨k, by omega, fun e => by rw [decide_eq_true e] at h; cases h⟩
    · rintro ⟨b, h1, h2⟩
      by_cases e : b = k
      · subst e; exact Or.inr (by rw [decide_eq_false h2]; rfl)
      · exact Or.inl ⟨b, by omega, h2⟩
theorem chB_iff (S : Nat → Int32) (nb pg pn : Nat) : ∀ k, chB S nb pg pn k = true ↔ ∃ q, q < k ∧ nvA S nb pg pn q ≠ oA S pg q
  | 0 => ⟨fun h => (by cases h), fun ⟨b, h, _⟩ => absurd h (by omega)⟩
  | k + 1 => by
    show (chB S nb pg pn k || !(decide (nvA S nb pg pn k = oA S pg k))) = true ↔ _
    rw [Bool.or_eq_true, chB_iff S nb pg pn k]
    constructor
    · rintro (⟨b, h1, h2⟩ | h)
      · exact ⟨b, by omega, h2⟩
      · exact ⟨k, by omega, fun e => by rw [decide_eq_true e] at h; cases h⟩
    · rintro ⟨b, h1, h2⟩
      by_cases e : b = k
      · subst e; exact Or.inr (by rw [decide_eq_false h2]; rfl)
      · exact Or.inl ⟨b, by omega, h2⟩
theorem dfB_chB {S : Nat → Int32} {nb ng pg pn : Nat} {F G : Nat → Int32} (hW : WS S nb ng) (hF : saV S nb pg pn F nb) (hG : ∀ b, b < nb → G b = S (2 + 9 * b + (3 + pg))) : dfB F G nb = chB S nb pg pn nb := by
  rw [Bool.eq_iff_iff, dfB_iff, chB_iff]
  constructor
  · rintro ⟨b, h1, h2⟩
    obtain ⟨i, hi, e⟩ := hW.2.2.2.2.2.1 b h1
    have hn := hW.2.1
    have eb : bk S i = b := bk_eq e (by omega)
    refine ⟨i, hi, fun q => h2 ?_⟩
    have h3 := hF i hi
    rw [eb] at h3
    rw [h3, hG b h1, q]
    show S (2 + 9 * bk S i + (3 + pg)) = _
    rw [eb]
  · rintro ⟨q, h1, h2⟩
    refine ⟨bk S q, (WS_row hW h1).1, fun e => h2 ?_⟩
    rw [hF q h1, hG _ (WS_row hW h1).1] at e
    exact e
theorem m_chg_l (d nb : Nat) (hn : nb ≤ 6) (M : am_M) (h1 : M 69 1 = nI nb) : ∀ (k i : Nat), i + k = nb → am_lim (am_call d) (am_R i12_changes) (am_tx i12_changes) 9 [.ref 68, .int (cb (dfB (M 73) (M 74) i)), .int (nI i)] [] M = some (some (.int (cb (dfB (M 73) (M 74) nb))), M)
  | 0, i, h => by
    have : i = nb := by omega
    subst this
    rw [sg12_changes_9, h1]
    simp (disch := omega) only [false_or, nle9, nI_dec9, nI_add, pk_mul, pk_sub, nI_clamp, nI_in9, nI_pos9, nI_lt9, nI_le9, nI_eq9, nI_eq09, nI_le09, am_k_m1, if_true, if_false, ite_not, Classical.not_not]
    rw [if_neg (by omega), if_pos (cb_01 _)]
  | k + 1, i, h => by
    rw [sg12_changes_9, h1]
    simp (disch := omega) only [false_or, nle9, nI_dec9, nI_add, pk_mul, pk_sub, nI_clamp, nI_in9, nI_pos9, nI_lt9, nI_le9, nI_eq9, nI_eq09, nI_le09, am_k_m1, if_true, if_false, ite_not, Classical.not_not]
    rw [if_pos (by omega)]
    have ih := m_chg_l d nb hn M h1 k (i + 1) (by omega)
    have e : dfB (M 73) (M 74) (i + 1) = (dfB (M 73) (M 74) i || !(decide (M 73 i = M 74 i))) := rfl
    rw [e] at ih
    cases hc : dfB (M 73) (M 74) i with
    | true =>
      rw [hc] at ih
      rw [if_neg (by decide +kernel)]
      exact ih
    | false =>
      rw [hc] at ih
      rw [if_pos (by decide +kernel)]
      by_cases c : M 73 i = M 74 i
      · rw [decide_eq_true c] at ih
        rw [if_pos c]; exact ih
      · rw [decide_eq_false c] at ih
        rw [if_neg c]; exact ih
theorem m_changes (d nb ng : Nat) (hg : ng < 2147483648) (M : am_M) (hW : WS (M 69) nb ng) (hK : txK (M 69) 0) (h74 : ∀ b, b < nb → M 74 b = M 69 (2 + 9 * b + (3 + ng % 6))) : ∃ M', am_call (d + 43) i12_changes [.ref 68] M = some (some (.int (cb (chB (M 69) nb (ng % 6) 0 nb))), M') ∧ M' 69 = ntS (M 69) nb (ng % 6) 0 ∧ J6 [69, 73] M M' := by
  rw [ec12_changes, pn0]
  obtain ⟨M1, a1, a2, a3, a4⟩ := m_night d nb ng 0 hg (by omega) M hW hK
  rw [a1]
  simp only [Option.bind_some, Option.toList_some, Option.toList_none, List.cons_append, List.nil_append, bi_eq0, bi_eq1, bi_nem, if_true, if_false, ite_not, Classical.not_not, sg12_changes_5]
  have h74' : M1 74 = M 74 := a4.1 74 (by decide) (by decide)
  have h := m_chg_l (d + 42) nb hW.2.1 M1 (by rw [a2]; exact (ntS_WS hW (Nat.mod_lt _ (by omega))).1) nb 0 (by omega)
  rw [dfB_chB (S := M 69) (pg := ng % 6) (pn := 0) hW a3 (by rw [h74']; exact h74)] at h
  exact ⟨M1, h, a2, a4⟩
theorem m_still_e (d q n : Nat) (S : Nat → Int32) (M : am_M) (hA : AS M S) (hS : ∀ j, 62 ≤ j → M 69 j = S j) (hq : q = 6) (hn : 6 ≤ n) (hn2 : n ≤ 206) : ∃ M', am_lim (am_call (d + 1)) (am_R i12_still) (am_tx i12_still) 8 [.ref 68, .int (nI q), .int (nI n), .null] [] M = some (some (.int (nI (n - 6))), M') ∧ M' 69 = S ∧ J6 [69] M M' := by
  subst hq
  obtain ⟨M1, a1, a2, a3⟩ := m_back d (nI (n - 6)) S M hA hS
  refine ⟨M1, ?_, a2, a3⟩
  rw [sg12_still_8, if_neg (by decide +kernel), if_neg (by decide +kernel), pk_sub (by omega), a1]
  simp only [Option.bind_some, Option.toList_some, Option.toList_none, List.cons_append, List.nil_append, bi_eq0, bi_eq1, bi_nem, if_true, if_false, ite_not, Classical.not_not, sg12_still_64]
  rw [if_neg (nI_pos (by omega))]
theorem m_still_l (d nb ng : Nat) (hg : ng ≤ 9999) (S : Nat → Int32) (hW : WS S nb ng) (hK : txK S 0) : ∀ (k n q : Nat) (M : am_M), n + k = 206 → q ≤ 5 → q ≤ n → M 69 = goS S nb ng 0 n → AS M S → ∃ M', am_lim (am_call (d + 43)) (am_R i12_still) (am_tx i12_still) 8 [.ref 68, .int (nI q), .int (nI n), .null] [] M = oM (stF (chN S nb ng) k n q) 2 M' ∧ M' 69 = S ∧ J6 [69, 73, 74] M M'
  | 0, n, q, M, h, hq, hqn, hM, hA => by
    have : n = 206 := by omega
    subst this
    have hhi : ∀ j, 62 ≤ j → M 69 j = S j := fun j hj => by rw [hM]; exact goS_hi hW (by omega) 206
    rw [sg12_still_8]
    simp (disch := omega) only [false_or, nle9, nI_dec9, nI_add, pk_mul, pk_sub, nI_clamp, nI_in9, nI_pos9, nI_lt9, nI_le9, nI_eq9, nI_eq09, nI_le09, am_k_m1, if_true, if_false, ite_not, Classical.not_not]
    rw [if_pos (by omega), if_neg (by omega), if_pos (by omega)]
    obtain ⟨M1, a1, a2, a3⟩ := m_back (d + 42) (-1) S M hA hhi
    rw [a1]
    simp only [Option.bind_some, Option.toList_some, Option.toList_none, List.cons_append, List.nil_append, bi_eq0, bi_eq1, bi_nem, if_true, if_false, ite_not, Classical.not_not, sg12_still_64]
    rw [if_pos (by decide +kernel), me2]
    simp only [Option.bind_some, Option.toList_some, Option.toList_none, List.cons_append, List.nil_append, bi_eq0, bi_eq1, bi_nem, if_true, if_false, ite_not, Classical.not_not, sg12_still_75]
    exact ⟨M1, rfl, a2, J6_mo a3 (by decide)⟩
  | k + 1, n, q, M, h, hq, hqn, hM, hA => by
    have hn := hW.2.1
    have hWn := goS_WS (pn := 0) hW n
    rw [sg12_still_8]
    simp (disch := omega) only [false_or, nle9, nI_dec9, nI_add, pk_mul, pk_sub, nI_clamp, nI_in9, nI_pos9, nI_lt9, nI_le9, nI_eq9, nI_eq09, nI_le09, am_k_m1, if_true, if_false, ite_not, Classical.not_not]
    rw [if_pos (by omega), if_pos (by omega), ec12_marks]
    obtain ⟨M1, a1, a2, a3⟩ := m_marks_l (d + 40) nb (ng + n) (by omega) (goS S nb ng 0 n) hWn nb 0 M (by omega) hM (fun b hb => by omega)
    rw [a1]
    simp only [Option.bind_some, Option.toList_some, Option.toList_none, List.cons_append, List.nil_append, bi_eq0, bi_eq1, bi_nem, if_true, if_false, ite_not, Classical.not_not, sg12_still_25]
    have f69 : M1 69 = goS S nb ng 0 n := (a3.1 69 (by decide) (by decide)).trans hM
    obtain ⟨M2, b1, b2, b3⟩ := m_changes d nb (ng + n) (by omega) M1 (by rw [f69]; exact hWn) (by rw [f69]; exact txK_S hK (fun j hj => goS_hi hW (by omega) n)) (by rw [f69]; exact a2)
    rw [b1]
    simp only [Option.bind_some, Option.toList_some, Option.toList_none, List.cons_append, List.nil_append, bi_eq0, bi_eq1, bi_nem, if_true, if_false, ite_not, Classical.not_not, sg12_still_29]
    rw [f69] at b2 ⊢
    have b2' : M2 69 = goS S nb ng 0 (n + 1) := b2
    have hA2 : AS M2 S := AS_J (AS_J hA a3 (by decide)) b3 (by decide)
    have hhi : ∀ j, 62 ≤ j → M2 69 j = S j := fun j hj => by rw [b2']; exact goS_hi hW (by omega) (n + 1)
    have hst : stF (chN S nb ng) (k + 1) n q = if chB (goS S nb ng 0 n) nb ((ng + n) % 6) 0 nb = true then stF (chN S nb ng) k (n + 1) 0 else if q = 5 then some (n + 1 - 6) else stF (chN S nb ng) k (n + 1) (q + 1) := rfl
    rw [hst]
    generalize hcc : chB (goS S nb ng 0 n) nb ((ng + n) % 6) 0 nb = cc
    cases cc with
    | true =>
      rw [if_neg (by decide +kernel), if_pos rfl, nI_add]
      obtain ⟨M3, e1, e2, e3⟩ := m_still_l d nb ng hg S hW hK k (n + 1) 0 M2 (by omega) (by omega) (by omega) b2' hA2
      exact ⟨M3, e1, e2, J6_tr (J6_tr (J6_mo a3 (by decide)) (J6_mo b3 (by decide))) e3⟩
    | false =>
      rw [if_pos (by decide +kernel), if_neg (show ¬ (false = true) by decide), nI_add, nI_add]
      by_cases c : q = 5
      · rw [if_pos c]
        obtain ⟨M3, e1, e2, e3⟩ := m_still_e (d + 42) (q + 1) (n + 1) S M2 hA2 hhi (by omega) (by omega) (by omega)
        exact ⟨M3, e1, e2, J6_tr (J6_tr (J6_mo a3 (by decide)) (J6_mo b3 (by decide))) (J6_mo e3 (by decide))⟩
      · rw [if_neg c]
        obtain ⟨M3, e1, e2, e3⟩ := m_still_l d nb ng hg S hW hK k (n + 1) (q + 1) M2 (by omega) (by omega) (by omega) b2' hA2
        exact ⟨M3, e1, e2, J6_tr (J6_tr (J6_mo a3 (by decide)) (J6_mo b3 (by decide))) e3⟩
theorem po_still (d : Nat) (M : am_M) (hI : IV M M) : PO d i11_still i12_still [] M := by
  obtain ⟨nb, ng, hW, hg, hR, hD⟩ := hI.1
  have hn := hW.2.1
  have h7 : M 9 7 = nI nb := hR.1.trans hW.1
  have h8 : M 9 8 = nI ng := hR.2.1.trans hW.2.2.1
  have cB : ∀ (d' : Nat) (x : Int32) (N : am_M), N 9 7 = M 9 7 → am_call (d' + 2) i11_isBook [.ref 0, .int x] N = some (some (.int (bi (0 ≤ x.toInt ∧ x.toInt < nb))), N) := fun d' x N h => c_isBook d' x N nb (h.trans h7) hn
  have cP : ∀ (d' : Nat) (x : Int32) (N : am_M), N 9 7 = M 9 7 → am_call (d' + 2) i11_isPlace [.ref 0, .int x] N = some (some (.int (bi (0 ≤ x.toInt ∧ x.toInt < nb))), N) := fun d' x N h => c_isPlace d' x N nb (h.trans h7) hn
  have cPB : ∀ (d' : Nat) (x y : Int32) (N : am_M), N 9 7 = M 9 7 → am_call (d' + 3) i11_isPageOfBook [.ref 0, .int x, .int y] N = some (some (.int (bi ((0 ≤ x.toInt ∧ x.toInt < nb) ∧ 0 ≤ y.toInt ∧ y.toInt < 6))), N) := fun d' x y N h => c_isPageOfBook d' x y N nb (h.trans h7) hn
  have mB : ∀ (d' : Nat) (x : Int32) (N : am_M), N 69 = M 69 → am_call (d' + 2) i12_isBook [.ref 68, .int x] N = some (some (.int (bi (0 ≤ x.toInt ∧ x.toInt < nb))), N) := fun d' x N h => m_isBook d' x N nb (by rw [h]; exact hW.1) hn
  obtain ⟨M1, a1, a2, a3⟩ := c_copyFrom (d + 58) 23 9 nb ng (by omega) (M 69) hW M hR
  have tr1 : TR (M1 33) (M1 34) (M 69) 0 := by rw [a3 33 (by decide), a3 34 (by decide)]; exact hD.2.2.2.2.2.2.2.1
  obtain ⟨M2, b1, b2⟩ := c_still_l (d + 55) nb ng hg (M 69) hW 206 0 0 .null M1 rfl (by omega) (by omega) a2 tr1
  refine PO_o (e := 2) (M1 := M2) (stF (chN (M 69) nb ng) 206 0 0) hI ?_ (Ch_tr (Ch_mo a3 (by decide)) (Ch_mo b2 (by decide))) (fun N hN => ?_)
  · rw [ec11_still, a1]
    simp only [Option.bind_some, Option.toList_some, Option.toList_none, List.cons_append, List.nil_append, bi_eq0, bi_eq1, bi_nem, if_true, if_false, ite_not, Classical.not_not, sg11_still_11]
    exact b1
  · have f69 : N 69 = M 69 := hN 69 (by decide)
    obtain ⟨N1, q1, q2, q3⟩ := m_lays (d + 58) N
    rw [f69] at q2
    have g69 : N1 69 = M 69 := (q3.1 69 (by decide) (by decide)).trans f69
    obtain ⟨N2, s1, s2, s3⟩ := m_still_l (d + 16) nb ng hg (M 69) hW (TR_K hD.2.2.2.2.2.2.2.1) 206 0 0 N1 rfl (by omega) (by omega) g69 q2
    refine ⟨N2, ?_, J6_69 (J6_tr (J6_mo q3 (by decide)) (J6_mo s3 (by decide))) (s2.trans f69.symm)⟩
    rw [ec12_still, q1]
    simp only [Option.bind_some, Option.toList_some, Option.toList_none, List.cons_append, List.nil_append, bi_eq0, bi_eq1, bi_nem, if_true, if_false, ite_not, Classical.not_not, sg12_still_4]
    exact s1
