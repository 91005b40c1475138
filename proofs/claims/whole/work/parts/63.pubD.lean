/-! the public calls: stood -/
theorem sgu_as17 (C : am_H) (h : Nat) (hh : h < 4) (x1 x3 r : Int32) (M : am_M) : am_lim C (am_R i11_isAsOnSheet) (am_tx i11_isAsOnSheet) 17 [.ref 0, .int x1, .int (nI h), .int x3] [.int r] M = if x3 < 0 ∨ 40 ≤ x3.toNatClampNeg then none else if r = M (63 + h) x3.toNatClampNeg then am_lim C (am_R i11_isAsOnSheet) (am_tx i11_isAsOnSheet) 2 [.ref 0, .int x1, .int (nI h), .int (x3 + (nI 1))] [] M else some (some (.int (nI 0)), M) := by
  have h4 : h = 0 ∨ h = 1 ∨ h = 2 ∨ h = 3 := by omega
  rcases h4 with rfl | rfl | rfl | rfl
  · exact sg11_isAsOnSheet_h0_17 C x1 x3 r M
  · exact sg11_isAsOnSheet_h1_17 C x1 x3 r M
  · exact sg11_isAsOnSheet_h2_17 C x1 x3 r M
  · exact sg11_isAsOnSheet_h3_17 C x1 x3 r M
theorem c_ason_l (d h b nb : Nat) (hh : h < 4) (hb : b < nb) (hn : nb ≤ 6) (T : Nat → Int32) (M : am_M) (hR : RS M 23 T nb) : ∀ (k i : Nat), i + k = 6 → am_lim (am_call (d + 1)) (am_R i11_isAsOnSheet) (am_tx i11_isAsOnSheet) 2 [.ref 0, .int (nI b), .int (nI h), .int (nI i)] [] M = some (some (.int (cb (eqB (fun p => T (2 + 9 * b + (3 + p))) (M (63 + h)) i k))), M)
  | 0, i, hk => by
    have : i = 6 := by omega
    subst this
    rw [sg11_isAsOnSheet_2, if_neg (by decide +kernel)]
    rfl
  | k + 1, i, hk => by
    rw [sg11_isAsOnSheet_2]
    simp (disch := omega) only [nI_lt9]
    rw [if_pos (by omega), c_said _ 23 (by omega) b i M (by omega)]
    simp only [Option.bind_some, Option.toList_some, List.cons_append, List.nil_append]
    rw [sgu_as17 _ h hh, (hR.2.2.1 b hb).2.2.2 i (by omega)]
    simp (disch := omega) only [nI_clamp, nI_in9, if_false]
    have e : eqB (fun p => T (2 + 9 * b + (3 + p))) (M (63 + h)) i (k + 1) = (decide (T (2 + 9 * b + (3 + i)) = M (63 + h) i) && eqB (fun p => T (2 + 9 * b + (3 + p))) (M (63 + h)) (i + 1) k) := rfl
    rw [e]
    by_cases c : T (2 + 9 * b + (3 + i)) = M (63 + h) i
    · rw [if_pos c, decide_eq_true c, Bool.true_and, nI_add]
      exact c_ason_l d h b nb hh hb hn T M hR k (i + 1) (by omega)
    · rw [if_neg c, decide_eq_false c, Bool.false_and]
      rfl
def eqA (F v : Nat → Int32) : Nat → Bool
  | 0 => true
  | p + 1 => eqA F v p && decide (v p = F p)
theorem eqA_iff (F v : Nat → Int32) : ∀ k, eqA F v k = true ↔ ∀ j, j < k → v j = F j
  | 0 => ⟨fun _ j h => absurd h (by omega), fun _ => rfl⟩
  | k + 1 => by
    show (eqA F v k && decide (v k = F k)) = true ↔ _
    rw [Bool.and_eq_true, eqA_iff F v k, decide_eq_true_iff]
    constructor
    · rintro ⟨h1, h2⟩ j hj
      by_cases e : j = k
      · subst e; exact h2
      · exact h1 j (by omega)
    · exact fun h => ⟨fun j hj => h j (by omega), h k (by omega)⟩
theorem m_isSo_l (d h b : Nat) (hh : h < 4) (hb : b < 6) (T v : Nat → Int32) (M : am_M) (hM : M 69 = T) (h80 : ∀ j, j < 6 → M 80 (40 * h + j) = v j) : ∀ (k i : Nat), i + k = 6 → am_lim (am_call (d + 2)) (am_R i12_isSo) (am_tx i12_isSo) 5 [.ref 68, .int (nI b), .int (nI h), .int (cb (eqA (fun p => T (2 + 9 * b + (3 + p))) v i)), .int (nI i)] [] M = some (some (.int (cb (eqA (fun p => T (2 + 9 * b + (3 + p))) v 6))), M)
  | 0, i, hk => by
    have : i = 6 := by omega
    subst this
    rw [sg12_isSo_5, if_neg (by decide +kernel), if_pos (cb_01 _)]
  | k + 1, i, hk => by
    rw [sg12_isSo_5]
    simp (disch := omega) only [nI_lt9, pk_mul, nI_add, nI_clamp, nI_in9, if_false]
    rw [if_pos (by omega)]
    have ih := m_isSo_l d h b hh hb T v M hM h80 k (i + 1) (by omega)
    have e : eqA (fun p => T (2 + 9 * b + (3 + p))) v (i + 1) = (eqA (fun p => T (2 + 9 * b + (3 + p))) v i && decide (v i = T (2 + 9 * b + (3 + i)))) := rfl
    rw [e] at ih
    cases hc : eqA (fun p => T (2 + 9 * b + (3 + p))) v i with
    | false =>
      rw [hc, Bool.false_and] at ih
      rw [if_pos (by decide +kernel)]
      exact ih
    | true =>
      rw [hc, Bool.true_and] at ih
      rw [if_neg (by decide +kernel), h80 i (by omega), m_pageAt _ b i M (by omega), hM]
      simp only [Option.bind_some, Option.toList_some, List.cons_append, List.nil_append, sg12_isSo_35]
      rw [nI_add]
      by_cases c : v i = T (2 + 9 * b + (3 + i))
      · rw [decide_eq_true c] at ih
        rw [if_pos c]; exact ih
      · rw [decide_eq_false c] at ih
        rw [if_neg c]; exact ih
def sdP (S : Nat → Int32) (nb ng n b : Nat) (v : Nat → Int32) (r : List Nat) : Bool := eqB (fun p => goS (rwS S nb r) nb ng 0 n (2 + 9 * b + (3 + p))) v 0 6
def stS (P : List Nat → Bool) (r : List Nat) (c : Nat) (f : List Nat) : Nat × List Nat := if P r = true then (c + 1, if c = 0 then r else f) else (c, f)
def stdF (nb : Nat) (P : List Nat → Bool) : Nat → List Nat → Nat → List Nat → Nat × List Nat
  | 0, _, c, f => (c, f)
  | k + 1, r, c, f => match nx nb r with
    | none => stS P r c f
    | some r' => stdF nb P k r' (stS P r c f).1 (stS P r c f).2
def fdC (F : Nat → Int32) (q : Nat × List Nat) : Prop := q.1 = 0 ∨ ∀ i, i < 6 → F i = nI (gd q.2 i)
abbrev stG (nb : Nat) (P : List Nat → Bool) (k : Nat) (r : List Nat) (q : Nat × List Nat) : Nat × List Nat := match nx nb r with
  | none => q
  | some r' => stdF nb P k r' q.1 q.2
theorem stdF_s (nb : Nat) (P : List Nat → Bool) (k : Nat) (r : List Nat) (c : Nat) (f : List Nat) : stdF nb P (k + 1) r c f = stG nb P k r (stS P r c f) := rfl
theorem c_std_l (d nb ng n b h : Nat) (hg : ng ≤ 9999) (hnn : n ≤ 12) (hh : h < 4) (hb : b < nb) (S v : Nat → Int32) (hW : WS S nb ng) : ∀ (k i c : Nat) (r f : List Nat) (M : am_M), i + k = 720 → c ≤ i → ends nb k r = true → RWL (M 56) r → fdC (M 57) (c, f) → M (63 + h) = v → RS M 9 S nb → TR (M 33) (M 34) S 0 → ∃ M', am_lim (am_call (d + 6)) (am_R i11_findRowsBy) (am_tx i11_findRowsBy) 13 [.ref 0, .int (nI b), .int (nI h), .int (nI n), .int (nI c), .int (nI 1), .int (nI i)] [] M = some (some (.int (nI (stdF nb (sdP S nb ng n b v) k r c f).1)), M') ∧ fdC (M' 57) (stdF nb (sdP S nb ng n b v) k r c f) ∧ (stdF nb (sdP S nb ng n b v) k r c f).1 ≤ 720 ∧ Ch [23, 24, 25, 26, 27, 28, 29, 35, 39, 56, 57] M M'
  | 0, i, c, r, f, M, hk, hci, he, hr, hf, hv, hR, hT => by cases he
  | k + 1, i, c, r, f, M, hk, hci, he, hr, hf, hv, hR, hT => by
    have hn := hW.2.1
    unfold ends at he
    rw [Bool.and_eq_true] at he
    have hok := he.1
    have he2 := he.2
    rw [sg11_findRowsBy_13, if_neg (by decide +kernel)]
    simp (disch := omega) only [nI_lt9]
    rw [if_pos (by omega)]
    have hp := okr_PR hok hn
    obtain ⟨M2, a1, a2, a3⟩ := c_thinkRow d nb ng n hg hnn S hW r M hr hp hR hT
    rw [a1]
    simp only [Option.bind_some, Option.toList_some, Option.toList_none, List.cons_append, List.nil_append, bi_eq0, bi_eq1, bi_nem, if_true, if_false, ite_not, Classical.not_not, sg11_findRowsBy_31]
    have hmm : 63 + h ∉ [23, 24, 25, 26, 27, 28, 29, 35] ∧ 63 + h ∉ [23, 24, 25, 26, 27, 28, 29, 35, 39, 56, 57] := by
      have : ∀ h, h < 4 → 63 + h ∉ [23, 24, 25, 26, 27, 28, 29, 35] ∧ 63 + h ∉ [23, 24, 25, 26, 27, 28, 29, 35, 39, 56, 57] := by decide
      exact this h hh
    have hv2 : M2 (63 + h) = v := (a3 _ hmm.1).trans hv
    rw [ec11_isAsOnSheet, c_ason_l (d + 4) h b nb hh hb hn (goS (rwS S nb r) nb ng 0 n) M2 a2 6 0 rfl, hv2]
    simp only [Option.bind_some, Option.toList_some, Option.toList_none, List.cons_append, List.nil_append, bi_eq0, bi_eq1, bi_nem, if_true, if_false, ite_not, Classical.not_not, sg11_findRowsBy_37]
    have hC2 : Ch [23, 24, 25, 26, 27, 28, 29, 35, 39, 56, 57] M M2 := Ch_mo a3 (by decide)
    have c56 : M2 56 = M 56 := a3 56 (by decide)
    have c57 : M2 57 = M 57 := a3 57 (by decide)
    have go : ∀ (q : Nat × List Nat) (M3 : am_M), q.1 ≤ i + 1 → Ch [23, 24, 25, 26, 27, 28, 29, 35, 39, 56, 57] M M3 → M3 56 = M 56 → fdC (M3 57) q → ∃ M', (am_call (d + 6) i11_nextRow [.ref 0] M3).bind (fun q' => am_lim (am_call (d + 6)) (am_R i11_findRowsBy) (am_tx i11_findRowsBy) 67 [.ref 0, .int (nI b), .int (nI h), .int (nI n), .int (nI q.1), .int (nI 1), .int (nI i)] (q'.1.toList ++ []) q'.2) = some (some (.int (nI (stG nb (sdP S nb ng n b v) k r q).1)), M') ∧ fdC (M' 57) (stG nb (sdP S nb ng n b v) k r q) ∧ (stG nb (sdP S nb ng n b v) k r q).1 ≤ 720 ∧ Ch [23, 24, 25, 26, 27, 28, 29, 35, 39, 56, 57] M M' := by
      intro q M3 hq3 h3 h56 h57
      have h97 : M3 9 7 = nI nb := by rw [h3 9 (by decide)]; exact hR.1.trans hW.1
      obtain ⟨M4, e1, e2, e3⟩ := c_nextRow (d + 4) nb hn r M3 h97 (by rw [h56]; exact hr)
      rw [e1]
      simp only [Option.bind_some, Option.toList_some, Option.toList_none, List.cons_append, List.nil_append, bi_eq0, bi_eq1, bi_nem, if_true, if_false, ite_not, Classical.not_not, sg11_findRowsBy_67]
      have hC4 : Ch [23, 24, 25, 26, 27, 28, 29, 35, 39, 56, 57] M M4 := Ch_tr h3 (Ch_mo e2 (by decide))
      unfold stG
      cases hq : nx nb r with
      | none =>
        rw [show nxB none = nI 0 from rfl, sg11_findRowsBy_13, if_pos nI_0]
        exact ⟨M4, rfl, by rw [e2 57 (by decide)]; exact h57, by show q.1 ≤ 720; omega, hC4⟩
      | some r' =>
        rw [hq] at he2
        rw [show nxB (some r') = nI 1 from rfl, nI_add]
        obtain ⟨M5, g1, g2, g3, g4⟩ := c_std_l d nb ng n b h hg hnn hh hb S v hW k (i + 1) q.1 r' q.2 M4 (by omega) hq3 he2 (e3 r' hq) (by rw [e2 57 (by decide)]; exact h57) ((hC4 _ hmm.2).trans hv) (RS_ch hR (by refine ⟨?_, ?_, ?_, ?_, ?_, ?_⟩ <;> exact hC4 _ (by decide))) (by rw [hC4 33 (by decide), hC4 34 (by decide)]; exact hT)
        exact ⟨M5, g1, g2, g3, Ch_tr hC4 g4⟩
    have hP : sdP S nb ng n b v r = eqB (fun p => goS (rwS S nb r) nb ng 0 n (2 + 9 * b + (3 + p))) v 0 6 := rfl
    rw [stdF_s, ← hP]
    unfold stS
    cases hc : sdP S nb ng n b v r with
    | false =>
      rw [if_pos (by decide +kernel), if_neg (show ¬ (false = true) by decide)]
      exact go (c, f) M2 (by show c ≤ i + 1; omega) hC2 c56 (by rw [c57]; exact hf)
    | true =>
      rw [if_neg (by decide +kernel), if_pos rfl]
      simp (disch := omega) only [nI_eq09, nI_add]
      by_cases c0 : c = 0
      · rw [if_pos c0, if_pos c0]
        have hC3 : Ch [23, 24, 25, 26, 27, 28, 29, 35, 39, 56, 57] M (am_setc M2 57 (va_cpy (M2 56) (M2 57) ((nI 0).toNatClampNeg) ((nI 0).toNatClampNeg) ((nI 6).toNatClampNeg))) := Ch_tr hC2 (Ch_sc (by decide))
        exact go (c + 1, r) _ (by show c + 1 ≤ i + 1; omega) hC3 ((stc_ne (by decide)).trans c56) (Or.inr (fun q hq => by
          rw [stc_eq, cpyE _ _ _ (by omega)]
          show (if q < 6 then _ else _) = _
          rw [if_pos hq, c56]
          exact hr.2.2 q hq))
      · rw [if_neg c0, if_neg c0]
        exact go (c + 1, f) M2 (by show c + 1 ≤ i + 1; omega) hC2 c56 (Or.inr (by rw [c57]; exact hf.resolve_left c0))
theorem m_std_l (d nb ng n b h : Nat) (hg : ng ≤ 9999) (hnn : n ≤ 12) (hh : h < 4) (hb : b < nb) (S v w : Nat → Int32) (hW : WS S nb ng) (hK : txK S 0) (x4 : Int32) (hvw : ∀ j, j < 6 → SV (v j) (w j)) : ∀ (k i c : Nat) (r f : List Nat) (w7 w8 : Value) (M : am_M), i + k = 720 → c ≤ i → ends nb k r = true → RWL (M 75) r → fdC (M 76) (c, f) → (∀ j, j < 6 → M 80 (40 * h + j) = w j) → M 69 = S → AS M S → ∃ M' v7 v8, am_lim (am_call (d + 44)) (am_R i12_stood) (am_tx i12_stood) 96 [.ref 68, .int (nI b), .int (nI h), .int (nI n), .int x4, .int (nI c), .int (nI 1), w7, w8] [] M = am_lim (am_call (d + 44)) (am_R i12_stood) (am_tx i12_stood) 96 [.ref 68, .int (nI b), .int (nI h), .int (nI n), .int x4, .int (nI (stdF nb (sdP S nb ng n b v) k r c f).1), .int (nI 0), v7, v8] [] M' ∧ fdC (M' 76) (stdF nb (sdP S nb ng n b v) k r c f) ∧ M' 69 = S ∧ J6 [69, 73, 75, 76] M M'
  | 0, i, c, r, f, w7, w8, M, hk, hci, he, hr, hf, h80, hM, hA => by cases he
  | k + 1, i, c, r, f, w7, w8, M, hk, hci, he, hr, hf, h80, hM, hA => by
    have hn := hW.2.1
    unfold ends at he
    rw [Bool.and_eq_true] at he
    have hok := he.1
    have he2 := he.2
    rw [sg12_stood_96, if_neg (by decide +kernel)]
    have hp := okr_PR hok hn
    obtain ⟨M1, a1, a2, a3⟩ := m_laysRow d nb ng n hg hnn S hW hK r M hM hr hp
    rw [a1]
    simp only [Option.bind_some, Option.toList_some, Option.toList_none, List.cons_append, List.nil_append, bi_eq0, bi_eq1, bi_nem, if_true, if_false, ite_not, Classical.not_not, sg12_stood_106]
    have hW2 := goS_WS (pn := 0) (WS_row2 hW hp) n
    have hhi : ∀ j, 62 ≤ j → goS (rwS S nb r) nb ng 0 n j = S j := fun j hj => (goS_hi (WS_row2 hW hp) (by omega) n).trans (rowU_hi (by omega))
    have hso := m_isSo_l (d + 41) h b hh (by omega) (goS (rwS S nb r) nb ng 0 n) w M1 a2 (fun j hj => by rw [a3.1 80 (by decide) (by decide)]; exact h80 j hj) 6 0 rfl
    have hso2 : am_call (d + 44) i12_isSo [.ref 68, .int (nI b), .int (nI h)] M1 = _ := (ec12_isSo _ _ _ _).trans hso
    rw [hso2]
    have hPe : eqA (fun p => goS (rwS S nb r) nb ng 0 n (2 + 9 * b + (3 + p))) w 6 = sdP S nb ng n b v r := by
      unfold sdP
      rw [Bool.eq_iff_iff, eqA_iff, eqB_iff]
      have hpg : ∀ j, j < 6 → sd (goS (rwS S nb r) nb ng 0 n (2 + 9 * b + (3 + j))) := fun j hj => by
        obtain ⟨p, hp2, hpe⟩ := (hW2.2.2.2.1 b hb).2.2.2 j hj
        rw [hpe]
        exact ⟨by rw [nI_toInt (by omega)]; omega, by rw [nI_toInt (by omega)]; omega⟩
      constructor
      · intro q j _ hj
        have hj6 : j < 6 := by omega
        have h1 := q j hj6
        have h2 : sd (w j) := by rw [h1]; exact hpg j hj6
        rw [← h1]
        exact (SV_eq (hvw j hj6) ((SV_sd (hvw j hj6)).mpr h2)).symm
      · intro q j hj
        have h1 := q j (by omega) (by omega)
        have h2 : sd (v j) := by rw [← h1]; exact hpg j hj
        rw [← SV_eq (hvw j hj) h2]
        exact h1.symm
    rw [hPe]
    simp only [Option.bind_some, Option.toList_some, Option.toList_none, List.cons_append, List.nil_append, bi_eq0, bi_eq1, bi_nem, if_true, if_false, ite_not, Classical.not_not, sg12_stood_112]
    have hA1 := AS_J hA a3 (by decide)
    obtain ⟨M3, e1, e2, e3⟩ := m_back (d + 43) (nI 0) S M1 hA1 (fun j hj => by rw [a2]; exact hhi j hj)
    rw [e1]
    simp only [Option.bind_some, Option.toList_some, Option.toList_none, List.cons_append, List.nil_append, bi_eq0, bi_eq1, bi_nem, if_true, if_false, ite_not, Classical.not_not, sg12_stood_119]
    have hJ3 : J6 [69, 73, 75, 76] M M3 := J6_tr (J6_mo a3 (by decide)) (J6_mo e3 (by decide))
    have c75 : M3 75 = M 75 := (e3.1 75 (by decide) (by decide)).trans (a3.1 75 (by decide) (by decide))
    have c76 : M3 76 = M 76 := (e3.1 76 (by decide) (by decide)).trans (a3.1 76 (by decide) (by decide))
    have go : ∀ (q : Nat × List Nat) (M4 : am_M) (y7 y8 : Value), q.1 ≤ i + 1 → J6 [69, 73, 75, 76] M M4 → M4 75 = M 75 → M4 69 = S → fdC (M4 76) q → ∃ M' v7 v8, (am_call (d + 44) i12_nextRow [.ref 68] M4).bind (fun q' => am_lim (am_call (d + 44)) (am_R i12_stood) (am_tx i12_stood) 154 [.ref 68, .int (nI b), .int (nI h), .int (nI n), .int x4, .int (nI q.1), .int (nI 1), .int (cb (sdP S nb ng n b v r)), .int (nI 0)] (q'.1.toList ++ []) q'.2) = am_lim (am_call (d + 44)) (am_R i12_stood) (am_tx i12_stood) 96 [.ref 68, .int (nI b), .int (nI h), .int (nI n), .int x4, .int (nI (stG nb (sdP S nb ng n b v) k r q).1), .int (nI 0), v7, v8] [] M' ∧ fdC (M' 76) (stG nb (sdP S nb ng n b v) k r q) ∧ M' 69 = S ∧ J6 [69, 73, 75, 76] M M' := by
      intro q M4 y7 y8 hq3 h4 h75 h69 h76
      obtain ⟨M5, g1, g2, g3⟩ := m_nextRow (d + 43) nb hn r M4 (by rw [h69]; exact hW.1) (by rw [h75]; exact hr)
      rw [g1]
      simp only [Option.bind_some, Option.toList_some, Option.toList_none, List.cons_append, List.nil_append, bi_eq0, bi_eq1, bi_nem, if_true, if_false, ite_not, Classical.not_not, sg12_stood_154]
      have hJ5 : J6 [69, 73, 75, 76] M M5 := J6_tr h4 (J6_mo g2 (by decide))
      have f69 : M5 69 = S := (g2.1 69 (by decide) (by decide)).trans h69
      have f76 : M5 76 = M4 76 := g2.1 76 (by decide) (by decide)
      unfold stG
      cases hq : nx nb r with
      | none => exact ⟨M5, _, _, rfl, by rw [f76]; exact h76, f69, hJ5⟩
      | some r' =>
        rw [hq] at he2
        obtain ⟨M6, v7, v8, k1, k2, k3, k4⟩ := m_std_l d nb ng n b h hg hnn hh hb S v w hW hK x4 hvw k (i + 1) q.1 r' q.2 (.int (cb (sdP S nb ng n b v r))) (.int (nI 0)) M5 (by omega) hq3 he2 (g3 r' hq) (by rw [f76]; exact h76) (fun j hj => by rw [hJ5.1 80 (by decide) (by decide)]; exact h80 j hj) f69 (AS_J hA hJ5 (by decide))
        exact ⟨M6, v7, v8, k1, k2, k3, J6_tr hJ5 k4⟩
    rw [stdF_s]
    unfold stS
    cases hc : sdP S nb ng n b v r with
    | false =>
      rw [hc] at go
      rw [if_pos (by decide +kernel), if_neg (show ¬ (false = true) by decide), sg12_stood_135, if_pos (by decide +kernel), nI_add]
      exact go (c, f) M3 .null .null (by show c ≤ i + 1; omega) hJ3 c75 e2 (by rw [c76]; exact hf)
    | true =>
      rw [hc] at go
      rw [if_neg (by decide +kernel), if_pos rfl]
      simp (disch := omega) only [nI_eq09]
      by_cases c0 : c = 0
      · rw [if_pos c0, if_pos c0, ec12_keepsRow]
        obtain ⟨M4, g1, g2, g3⟩ := m_keeps_l (am_call (d + 43)) 6 0 M3 rfl (fun q hq => by omega)
        rw [g1]
        simp only [Option.bind_some, Option.toList_some, Option.toList_none, List.cons_append, List.nil_append, bi_eq0, bi_eq1, bi_nem, if_true, if_false, ite_not, Classical.not_not]
        rw [sg12_stood_135, if_neg (by decide +kernel), nI_add]
        exact go (c + 1, r) M4 .null .null (by show c + 1 ≤ i + 1; omega) (J6_tr hJ3 (J6_mo g3 (by decide))) ((g3.1 75 (by decide) (by decide)).trans c75) ((g3.1 69 (by decide) (by decide)).trans e2) (Or.inr (fun q hq => by
          rw [g2 q hq, c75]
          exact hr.2.2 q hq))
      · rw [if_neg c0, if_neg c0, sg12_stood_135, if_neg (by decide +kernel), nI_add]
        exact go (c + 1, f) M3 .null .null (by show c + 1 ≤ i + 1; omega) hJ3 c75 e2 (Or.inr (by rw [c76]; exact hf.resolve_left c0))
theorem po_stood (d : Nat) (b h n w : Int32) (M : am_M) (hI : IV M M) : PO d i11_stood i12_stood [.int b, .int h, .int n, .int w] M := by
  obtain ⟨nb, ng, hW, hg, hR, hD⟩ := hI.1
  have hn := hW.2.1
  have h7 : M 9 7 = nI nb := hR.1.trans hW.1
  have h8 : M 9 8 = nI ng := hR.2.1.trans hW.2.2.1
  have cB : ∀ (d' : Nat) (x : Int32) (N : am_M), N 9 7 = M 9 7 → am_call (d' + 2) i11_isBook [.ref 0, .int x] N = some (some (.int (bi (0 ≤ x.toInt ∧ x.toInt < nb))), N) := fun d' x N h => c_isBook d' x N nb (h.trans h7) hn
  have cP : ∀ (d' : Nat) (x : Int32) (N : am_M), N 9 7 = M 9 7 → am_call (d' + 2) i11_isPlace [.ref 0, .int x] N = some (some (.int (bi (0 ≤ x.toInt ∧ x.toInt < nb))), N) := fun d' x N h => c_isPlace d' x N nb (h.trans h7) hn
  have cPB : ∀ (d' : Nat) (x y : Int32) (N : am_M), N 9 7 = M 9 7 → am_call (d' + 3) i11_isPageOfBook [.ref 0, .int x, .int y] N = some (some (.int (bi ((0 ≤ x.toInt ∧ x.toInt < nb) ∧ 0 ≤ y.toInt ∧ y.toInt < 6))), N) := fun d' x y N h => c_isPageOfBook d' x y N nb (h.trans h7) hn
  have mB : ∀ (d' : Nat) (x : Int32) (N : am_M), N 69 = M 69 → am_call (d' + 2) i12_isBook [.ref 68, .int x] N = some (some (.int (bi (0 ≤ x.toInt ∧ x.toInt < nb))), N) := fun d' x N h => m_isBook d' x N nb (by rw [h]; exact hW.1) hn
  have cM : ∀ (d' : Nat) (x : Int32) (N : am_M), am_call (d' + 1) i11_isWithin [.int x, .int (nI 0), .int (nI 12)] N = some (some (.int (bi (0 ≤ x.toInt ∧ x.toInt < 13))), N) := fun d' x N => (cW d' x 0 12 N (by omega) (by omega)).trans (bi_out (by omega))
  have mM : ∀ (d' : Nat) (x : Int32) (N : am_M), am_call (d' + 1) i12_in [.long x.toInt64, .long (lN 0), .long (lN 12)] N = some (some (.int (bi (0 ≤ x.toInt ∧ x.toInt < 13))), N) := fun d' x N => (mW d' x 0 12 N (by omega) (by omega)).trans (bi_out (by omega))
  have cRQ : ∀ (d' : Nat) (x : Int32) (N : am_M), N 9 7 = M 9 7 → am_call (d' + 3) i11_isRowQuestion [.ref 0, .int x] N = some (some (.int (bi (x = -1 ∨ (0 ≤ x.toInt ∧ x.toInt < nb)))), N) := fun d' x N h => c_isRowQuestion d' x N nb (h.trans h7) hn
  have mRQ : ∀ (d' : Nat) (x : Int32) (N : am_M), N 69 = M 69 → am_call (d' + 1) i12_in [.long x.toInt64, .long (am_kl (-1)), .long (N 69 1 - nI 1).toInt64] N = some (some (.int (bi (x = -1 ∨ (0 ≤ x.toInt ∧ x.toInt < nb)))), N) := fun d' x N h => (m_in d' _ _ _ N).trans (bi_out (by
    rw [h, hW.1, Int32.toInt_toInt64, Int32.toInt_toInt64, am_kl_int (by omega) (by omega), pk_sub_toInt (by omega) (by omega), i32_eq, i32_m1]
    omega))
  by_cases hb : 0 ≤ b.toInt ∧ b.toInt < nb
  · by_cases hs : 0 ≤ h.toInt ∧ h.toInt < 4
    · by_cases hn0 : 0 ≤ n.toInt ∧ n.toInt < 13
      · by_cases hw : w = -1 ∨ (0 ≤ w.toInt ∧ w.toInt < nb)
        · obtain ⟨h', hh', rfl⟩ := i32_of (n := 4) hs.1 hs.2 (by omega)
          obtain ⟨e1, e2, ln, hl, e3, e4⟩ := hI.2.2.2.2.2 h' hh'
          by_cases hm : M 60 h' = 0
          · refine PO_e (k := 2) hI (M1 := M) ?_ Ch_rf ⟨eC M 2, ?_, J6_rf⟩
            · rw [ec11_stood, cB _ _ _ rfl]
              simp only [Option.bind_some, Option.toList_some, Option.toList_none, List.cons_append, List.nil_append, bi_eq0, bi_eq1, bi_nem, if_true, if_false, ite_not, Classical.not_not, sg11_stood_5]
              rw [if_pos (hb), c_isSheet]
              simp only [Option.bind_some, Option.toList_some, Option.toList_none, List.cons_append, List.nil_append, bi_eq0, bi_eq1, bi_nem, if_true, if_false, ite_not, Classical.not_not, sg11_stood_12]
              rw [if_pos (hs), cM]
              simp only [Option.bind_some, Option.toList_some, Option.toList_none, List.cons_append, List.nil_append, bi_eq0, bi_eq1, bi_nem, if_true, if_false, ite_not, Classical.not_not, sg11_stood_22]
              rw [if_pos (hn0), cRQ _ _ _ rfl]
              simp only [Option.bind_some, Option.toList_some, Option.toList_none, List.cons_append, List.nil_append, bi_eq0, bi_eq1, bi_nem, if_true, if_false, ite_not, Classical.not_not, sg11_stood_31]
              rw [if_pos (hw), c_isMissing _ h' _ hh']
              simp only [Option.bind_some, Option.toList_some, Option.toList_none, List.cons_append, List.nil_append, bi_eq0, bi_eq1, bi_nem, if_true, if_false, ite_not, Classical.not_not, sg11_stood_45]
              rw [if_pos (hm), ce _ 2 _ (by omega)]
              simp only [Option.bind_some, Option.toList_some, Option.toList_none, List.cons_append, List.nil_append, bi_eq0, bi_eq1, bi_nem, if_true, if_false, ite_not, Classical.not_not, sg11_stood_64]
            · rw [ec12_stood, mB _ _ _ (eC_b (by decide))]
              simp only [Option.bind_some, Option.toList_some, Option.toList_none, List.cons_append, List.nil_append, bi_eq0, bi_eq1, bi_nem, if_true, if_false, ite_not, Classical.not_not, sg12_stood_5]
              rw [if_pos (hb), m_isSheet]
              simp only [Option.bind_some, Option.toList_some, Option.toList_none, List.cons_append, List.nil_append, bi_eq0, bi_eq1, bi_nem, if_true, if_false, ite_not, Classical.not_not, sg12_stood_12]
              rw [if_pos (hs), mM]
              simp only [Option.bind_some, Option.toList_some, Option.toList_none, List.cons_append, List.nil_append, bi_eq0, bi_eq1, bi_nem, if_true, if_false, ite_not, Classical.not_not, sg12_stood_24]
              rw [if_pos (hn0), mRQ _ _ _ (eC_b (by decide))]
              simp only [Option.bind_some, Option.toList_some, Option.toList_none, List.cons_append, List.nil_append, bi_eq0, bi_eq1, bi_nem, if_true, if_false, ite_not, Classical.not_not, sg12_stood_45]
              rw [if_pos (hw)]
              simp (disch := omega) only [nI_clamp, nI_in9, if_false]
              rw [eC_b (by decide), ← e1, if_pos (hm), me2]
              simp only [Option.bind_some, Option.toList_some, Option.toList_none, List.cons_append, List.nil_append, bi_eq0, bi_eq1, bi_nem, if_true, if_false, ite_not, Classical.not_not, sg12_stood_81]
          · by_cases h6 : M 61 h' = nI 6
            · have hl6 : ln = 6 := by
                have := e3.symm.trans h6
                rwa [nI_eq9 (by omega) (by omega)] at this
              obtain ⟨n', hn', rfl⟩ := i32_of (n := 13) hn0.1 hn0.2 (by omega)
              obtain ⟨b', hb', rfl⟩ := i32_of (n := nb) hb.1 hb.2 (by omega)
              obtain ⟨M1, a1, a2, a3⟩ := c_begin_l (am_call (d + 57)) 6 0 M rfl (fun q hq => by omega)
              have hb1 : am_call (d + 58) i11_beginRows [.ref 0] M = some (none, M1) := (ec11_beginRows _ _).trans a1
              have hmm : 63 + h' ∉ [56] := by simp; omega
              obtain ⟨M2, b1, b2, bx, b3⟩ := c_std_l (d + 52) nb ng n' b' h' hg (by omega) hh' hb' (M 69) (M (63 + h')) hW 720 0 0 [0, 1, 2, 3, 4, 5] [] M1 rfl (Nat.le_refl _) (ends_all hn) (row0 a2) (Or.inl rfl) (a3 _ hmm) (RS_ch hR (by refine ⟨?_, ?_, ?_, ?_, ?_, ?_⟩ <;> exact a3 _ (by decide))) (by rw [a3 33 (by decide), a3 34 (by decide)]; exact hD.2.2.2.2.2.2.2.1)
              have hC : Ch Cs M M2 := Ch_tr (Ch_mo a3 (by decide)) (Ch_mo b3 (by decide))
              have hfind : am_call (d + 59) i11_findRowsBy [.ref 0, .int (nI b'), .int (nI h'), .int (nI n')] M = some (some (.int (nI (stdF nb (sdP (M 69) nb ng n' b' (M (63 + h'))) 720 [0, 1, 2, 3, 4, 5] 0 []).1)), M2) := by
                rw [ec11_findRowsBy, hb1]
                simp only [Option.bind_some, Option.toList_some, Option.toList_none, List.cons_append, List.nil_append, bi_eq0, bi_eq1, bi_nem, if_true, if_false, ite_not, Classical.not_not, sg11_findRowsBy_4]
                exact b1
              have hmd : ∀ N, Ch (67 :: Cs) M N → ∃ N3 v7 v8, am_call (d + 60) i12_stood [.ref 68, .int (nI b'), .int (nI h'), .int (nI n'), .int w] N = am_lim (am_call (d + 59)) (am_R i12_stood) (am_tx i12_stood) 96 [.ref 68, .int (nI b'), .int (nI h'), .int (nI n'), .int w, .int (nI (stdF nb (sdP (M 69) nb ng n' b' (M (63 + h'))) 720 [0, 1, 2, 3, 4, 5] 0 []).1), .int (nI 0), v7, v8] [] N3 ∧ fdC (N3 76) (stdF nb (sdP (M 69) nb ng n' b' (M (63 + h'))) 720 [0, 1, 2, 3, 4, 5] 0 []) ∧ J6 Ms N N3 := by
                intro N hN
                have f69 : N 69 = M 69 := hN 69 (by decide)
                obtain ⟨N1, q1, q2, q3⟩ := m_lays (d + 58) N
                rw [f69] at q2
                have g69 : N1 69 = M 69 := (q3.1 69 (by decide) (by decide)).trans f69
                obtain ⟨N2, s1, s2, s3⟩ := m_first_l (am_call (d + 58)) 6 0 N1 rfl (fun q hq => by omega)
                have hf1 : am_call (d + 59) i12_firstRow [.ref 68] N1 = some (none, N2) := (ec12_firstRow _ _).trans s1
                obtain ⟨N3, v7, v8, t1, t2, t3, t4⟩ := m_std_l (d + 15) nb ng n' b' h' hg (by omega) hh' hb' (M 69) (M (63 + h')) (fun j => M 80 (40 * h' + j)) hW (TR_K hD.2.2.2.2.2.2.2.1) w (fun j hj => e4 j (by omega)) 720 0 0 [0, 1, 2, 3, 4, 5] [] .null .null N2 rfl (Nat.le_refl _) (ends_all hn) (row0 s2) (Or.inl rfl) (fun j hj => by rw [s3.1 80 (by decide) (by decide), q3.1 80 (by decide) (by decide), hN 80 (by decide)]) ((s3.1 69 (by decide) (by decide)).trans g69) (AS_J q2 s3 (by decide))
                refine ⟨N3, v7, v8, ?_, t2, J6_69 (J6_tr (J6_tr (J6_mo q3 (by decide)) (J6_mo s3 (by decide))) (J6_mo t4 (by decide))) (t3.trans f69.symm)⟩
                rw [ec12_stood, mB _ _ _ f69]
                simp only [Option.bind_some, Option.toList_some, Option.toList_none, List.cons_append, List.nil_append, bi_eq0, bi_eq1, bi_nem, if_true, if_false, ite_not, Classical.not_not, sg12_stood_5]
                rw [if_pos (hb), m_isSheet]
                simp only [Option.bind_some, Option.toList_some, Option.toList_none, List.cons_append, List.nil_append, bi_eq0, bi_eq1, bi_nem, if_true, if_false, ite_not, Classical.not_not, sg12_stood_12]
                rw [if_pos (hs), mM]
                simp only [Option.bind_some, Option.toList_some, Option.toList_none, List.cons_append, List.nil_append, bi_eq0, bi_eq1, bi_nem, if_true, if_false, ite_not, Classical.not_not, sg12_stood_24]
                rw [if_pos (hn0), mRQ _ _ _ f69]
                simp only [Option.bind_some, Option.toList_some, Option.toList_none, List.cons_append, List.nil_append, bi_eq0, bi_eq1, bi_nem, if_true, if_false, ite_not, Classical.not_not, sg12_stood_45]
                rw [if_pos (hw)]
                simp (disch := omega) only [nI_clamp, nI_in9, if_false]
                rw [hN 78 (by decide), ← e1, if_neg (hm), hN 79 (by decide), ← e2, if_pos (h6), q1]
                simp only [Option.bind_some, Option.toList_some, Option.toList_none, List.cons_append, List.nil_append, bi_eq0, bi_eq1, bi_nem, if_true, if_false, ite_not, Classical.not_not, sg12_stood_86]
                rw [hf1]
                simp only [Option.bind_some, Option.toList_some, Option.toList_none, List.cons_append, List.nil_append, bi_eq0, bi_eq1, bi_nem, if_true, if_false, ite_not, Classical.not_not, sg12_stood_90]
                exact t1
              generalize stdF nb (sdP (M 69) nb ng n' b' (M (63 + h'))) 720 [0, 1, 2, 3, 4, 5] 0 [] = R at b2 bx hfind hmd
              have hcl : am_call (d + 60) i11_stood [.ref 0, .int (nI b'), .int (nI h'), .int (nI n'), .int w] M = am_lim (am_call (d + 59)) (am_R i11_stood) (am_tx i11_stood) 72 [.ref 0, .int (nI b'), .int (nI h'), .int (nI n'), .int w, .null] [.int (nI R.1)] M2 := by
                rw [ec11_stood, cB _ _ _ rfl]
                simp only [Option.bind_some, Option.toList_some, Option.toList_none, List.cons_append, List.nil_append, bi_eq0, bi_eq1, bi_nem, if_true, if_false, ite_not, Classical.not_not, sg11_stood_5]
                rw [if_pos (hb), c_isSheet]
                simp only [Option.bind_some, Option.toList_some, Option.toList_none, List.cons_append, List.nil_append, bi_eq0, bi_eq1, bi_nem, if_true, if_false, ite_not, Classical.not_not, sg11_stood_12]
                rw [if_pos (hs), cM]
                simp only [Option.bind_some, Option.toList_some, Option.toList_none, List.cons_append, List.nil_append, bi_eq0, bi_eq1, bi_nem, if_true, if_false, ite_not, Classical.not_not, sg11_stood_22]
                rw [if_pos (hn0), cRQ _ _ _ rfl]
                simp only [Option.bind_some, Option.toList_some, Option.toList_none, List.cons_append, List.nil_append, bi_eq0, bi_eq1, bi_nem, if_true, if_false, ite_not, Classical.not_not, sg11_stood_31]
                rw [if_pos (hw), c_isMissing _ h' _ hh']
                simp only [Option.bind_some, Option.toList_some, Option.toList_none, List.cons_append, List.nil_append, bi_eq0, bi_eq1, bi_nem, if_true, if_false, ite_not, Classical.not_not, sg11_stood_45]
                rw [if_neg (hm)]
                simp (disch := omega) only [nI_clamp, nI_in9, if_false]
                rw [if_pos (h6), hfind]
                rfl
              refine PO_oi (e := 2) (M1 := M2) (if R.1 = 0 then none else some (if w < 0 then nI R.1 else nI (gd R.2 w.toNatClampNeg))) hI ?_ hC (fun N hN => ?_)
              · rw [hcl, sg11_stood_72]
                simp (disch := omega) only [nI_eq09]
                by_cases c0 : R.1 = 0
                · rw [if_pos c0, if_pos c0, ce _ 2 _ (by omega)]
                  simp only [Option.bind_some, Option.toList_some, Option.toList_none, List.cons_append, List.nil_append, bi_eq0, bi_eq1, bi_nem, if_true, if_false, ite_not, Classical.not_not, sg11_stood_84]
                  rfl
                · rw [if_neg c0, if_neg c0]
                  have x57 := b2.resolve_left c0
                  rcases hw with hw1 | hw1
                  · have hneg : w < 0 := by rw [hw1]; decide +kernel
                    rw [if_pos hneg, if_pos hneg]
                    rfl
                  · obtain ⟨w', hw', rfl⟩ := i32_of (n := nb) hw1.1 hw1.2 (by omega)
                    rw [if_neg (nI_pos (by omega)), if_neg (nI_pos (by omega))]
                    simp (disch := omega) only [nI_clamp, nI_in9, if_false]
                    rw [x57 w' (by omega)]
                    rfl
              · obtain ⟨N3, v7, v8, t1, t2, t3⟩ := hmd N hN
                rw [t1, sg12_stood_96, if_pos nI_0]
                simp (disch := omega) only [nI_eq09]
                by_cases c0 : R.1 = 0
                · rw [if_pos c0, if_pos c0, me2]
                  simp only [Option.bind_some, Option.toList_some, Option.toList_none, List.cons_append, List.nil_append, bi_eq0, bi_eq1, bi_nem, if_true, if_false, ite_not, Classical.not_not, sg12_stood_170]
                  exact ⟨N3, rfl, t3⟩
                · rw [if_neg c0, if_neg c0]
                  refine ⟨N3, ?_, t3⟩
                  have x76 := t2.resolve_left c0
                  rcases hw with hw1 | hw1
                  · have hneg : w < 0 := by rw [hw1]; decide +kernel
                    rw [if_pos hneg, if_pos hneg]
                    rfl
                  · obtain ⟨w', hw', rfl⟩ := i32_of (n := nb) hw1.1 hw1.2 (by omega)
                    rw [if_neg (nI_pos (by omega)), if_neg (nI_pos (by omega))]
                    simp (disch := omega) only [nI_clamp, nI_in9, if_false]
                    rw [x76 w' (by omega)]
                    rfl
            · refine PO_e (k := 2) hI (M1 := M) ?_ Ch_rf ⟨eC M 2, ?_, J6_rf⟩
              · rw [ec11_stood, cB _ _ _ rfl]
                simp only [Option.bind_some, Option.toList_some, Option.toList_none, List.cons_append, List.nil_append, bi_eq0, bi_eq1, bi_nem, if_true, if_false, ite_not, Classical.not_not, sg11_stood_5]
                rw [if_pos (hb), c_isSheet]
                simp only [Option.bind_some, Option.toList_some, Option.toList_none, List.cons_append, List.nil_append, bi_eq0, bi_eq1, bi_nem, if_true, if_false, ite_not, Classical.not_not, sg11_stood_12]
                rw [if_pos (hs), cM]
                simp only [Option.bind_some, Option.toList_some, Option.toList_none, List.cons_append, List.nil_append, bi_eq0, bi_eq1, bi_nem, if_true, if_false, ite_not, Classical.not_not, sg11_stood_22]
                rw [if_pos (hn0), cRQ _ _ _ rfl]
                simp only [Option.bind_some, Option.toList_some, Option.toList_none, List.cons_append, List.nil_append, bi_eq0, bi_eq1, bi_nem, if_true, if_false, ite_not, Classical.not_not, sg11_stood_31]
                rw [if_pos (hw), c_isMissing _ h' _ hh']
                simp only [Option.bind_some, Option.toList_some, Option.toList_none, List.cons_append, List.nil_append, bi_eq0, bi_eq1, bi_nem, if_true, if_false, ite_not, Classical.not_not, sg11_stood_45]
                rw [if_neg (hm)]
                simp (disch := omega) only [nI_clamp, nI_in9, if_false]
                rw [if_neg (h6), ce _ 2 _ (by omega)]
                simp only [Option.bind_some, Option.toList_some, Option.toList_none, List.cons_append, List.nil_append, bi_eq0, bi_eq1, bi_nem, if_true, if_false, ite_not, Classical.not_not, sg11_stood_64]
              · rw [ec12_stood, mB _ _ _ (eC_b (by decide))]
                simp only [Option.bind_some, Option.toList_some, Option.toList_none, List.cons_append, List.nil_append, bi_eq0, bi_eq1, bi_nem, if_true, if_false, ite_not, Classical.not_not, sg12_stood_5]
                rw [if_pos (hb), m_isSheet]
                simp only [Option.bind_some, Option.toList_some, Option.toList_none, List.cons_append, List.nil_append, bi_eq0, bi_eq1, bi_nem, if_true, if_false, ite_not, Classical.not_not, sg12_stood_12]
                rw [if_pos (hs), mM]
                simp only [Option.bind_some, Option.toList_some, Option.toList_none, List.cons_append, List.nil_append, bi_eq0, bi_eq1, bi_nem, if_true, if_false, ite_not, Classical.not_not, sg12_stood_24]
                rw [if_pos (hn0), mRQ _ _ _ (eC_b (by decide))]
                simp only [Option.bind_some, Option.toList_some, Option.toList_none, List.cons_append, List.nil_append, bi_eq0, bi_eq1, bi_nem, if_true, if_false, ite_not, Classical.not_not, sg12_stood_45]
                rw [if_pos (hw)]
                simp (disch := omega) only [nI_clamp, nI_in9, if_false]
                rw [eC_b (by decide), ← e1, if_neg (hm), eC_b (by decide), ← e2, if_neg (h6), me2]
                simp only [Option.bind_some, Option.toList_some, Option.toList_none, List.cons_append, List.nil_append, bi_eq0, bi_eq1, bi_nem, if_true, if_false, ite_not, Classical.not_not, sg12_stood_81]
        · refine PO_e (k := 1) hI (M1 := M) ?_ Ch_rf ⟨eC M 1, ?_, J6_rf⟩
          · rw [ec11_stood, cB _ _ _ rfl]
            simp only [Option.bind_some, Option.toList_some, Option.toList_none, List.cons_append, List.nil_append, bi_eq0, bi_eq1, bi_nem, if_true, if_false, ite_not, Classical.not_not, sg11_stood_5]
            rw [if_pos (hb), c_isSheet]
            simp only [Option.bind_some, Option.toList_some, Option.toList_none, List.cons_append, List.nil_append, bi_eq0, bi_eq1, bi_nem, if_true, if_false, ite_not, Classical.not_not, sg11_stood_12]
            rw [if_pos (hs), cM]
            simp only [Option.bind_some, Option.toList_some, Option.toList_none, List.cons_append, List.nil_append, bi_eq0, bi_eq1, bi_nem, if_true, if_false, ite_not, Classical.not_not, sg11_stood_22]
            rw [if_pos (hn0), cRQ _ _ _ rfl]
            simp only [Option.bind_some, Option.toList_some, Option.toList_none, List.cons_append, List.nil_append, bi_eq0, bi_eq1, bi_nem, if_true, if_false, ite_not, Classical.not_not, sg11_stood_31]
            rw [if_neg (hw), ce _ 1 _ (by omega)]
            simp only [Option.bind_some, Option.toList_some, Option.toList_none, List.cons_append, List.nil_append, bi_eq0, bi_eq1, bi_nem, if_true, if_false, ite_not, Classical.not_not, sg11_stood_39]
          · rw [ec12_stood, mB _ _ _ (eC_b (by decide))]
            simp only [Option.bind_some, Option.toList_some, Option.toList_none, List.cons_append, List.nil_append, bi_eq0, bi_eq1, bi_nem, if_true, if_false, ite_not, Classical.not_not, sg12_stood_5]
            rw [if_pos (hb), m_isSheet]
            simp only [Option.bind_some, Option.toList_some, Option.toList_none, List.cons_append, List.nil_append, bi_eq0, bi_eq1, bi_nem, if_true, if_false, ite_not, Classical.not_not, sg12_stood_12]
            rw [if_pos (hs), mM]
            simp only [Option.bind_some, Option.toList_some, Option.toList_none, List.cons_append, List.nil_append, bi_eq0, bi_eq1, bi_nem, if_true, if_false, ite_not, Classical.not_not, sg12_stood_24]
            rw [if_pos (hn0), mRQ _ _ _ (eC_b (by decide))]
            simp only [Option.bind_some, Option.toList_some, Option.toList_none, List.cons_append, List.nil_append, bi_eq0, bi_eq1, bi_nem, if_true, if_false, ite_not, Classical.not_not, sg12_stood_45]
            rw [if_neg (hw), me1]
            simp only [Option.bind_some, Option.toList_some, Option.toList_none, List.cons_append, List.nil_append, bi_eq0, bi_eq1, bi_nem, if_true, if_false, ite_not, Classical.not_not, sg12_stood_54]
      · refine PO_e (k := 1) hI (M1 := M) ?_ Ch_rf ⟨eC M 1, ?_, J6_rf⟩
        · rw [ec11_stood, cB _ _ _ rfl]
          simp only [Option.bind_some, Option.toList_some, Option.toList_none, List.cons_append, List.nil_append, bi_eq0, bi_eq1, bi_nem, if_true, if_false, ite_not, Classical.not_not, sg11_stood_5]
          rw [if_pos (hb), c_isSheet]
          simp only [Option.bind_some, Option.toList_some, Option.toList_none, List.cons_append, List.nil_append, bi_eq0, bi_eq1, bi_nem, if_true, if_false, ite_not, Classical.not_not, sg11_stood_12]
          rw [if_pos (hs), cM]
          simp only [Option.bind_some, Option.toList_some, Option.toList_none, List.cons_append, List.nil_append, bi_eq0, bi_eq1, bi_nem, if_true, if_false, ite_not, Classical.not_not, sg11_stood_22]
          rw [if_neg (hn0), ce _ 1 _ (by omega)]
          simp only [Option.bind_some, Option.toList_some, Option.toList_none, List.cons_append, List.nil_append, bi_eq0, bi_eq1, bi_nem, if_true, if_false, ite_not, Classical.not_not, sg11_stood_39]
        · rw [ec12_stood, mB _ _ _ (eC_b (by decide))]
          simp only [Option.bind_some, Option.toList_some, Option.toList_none, List.cons_append, List.nil_append, bi_eq0, bi_eq1, bi_nem, if_true, if_false, ite_not, Classical.not_not, sg12_stood_5]
          rw [if_pos (hb), m_isSheet]
          simp only [Option.bind_some, Option.toList_some, Option.toList_none, List.cons_append, List.nil_append, bi_eq0, bi_eq1, bi_nem, if_true, if_false, ite_not, Classical.not_not, sg12_stood_12]
          rw [if_pos (hs), mM]
          simp only [Option.bind_some, Option.toList_some, Option.toList_none, List.cons_append, List.nil_append, bi_eq0, bi_eq1, bi_nem, if_true, if_false, ite_not, Classical.not_not, sg12_stood_24]
          rw [if_neg (hn0), me1]
          simp only [Option.bind_some, Option.toList_some, Option.toList_none, List.cons_append, List.nil_append, bi_eq0, bi_eq1, bi_nem, if_true, if_false, ite_not, Classical.not_not, sg12_stood_54]
    · refine PO_e (k := 1) hI (M1 := M) ?_ Ch_rf ⟨eC M 1, ?_, J6_rf⟩
      · rw [ec11_stood, cB _ _ _ rfl]
        simp only [Option.bind_some, Option.toList_some, Option.toList_none, List.cons_append, List.nil_append, bi_eq0, bi_eq1, bi_nem, if_true, if_false, ite_not, Classical.not_not, sg11_stood_5]
        rw [if_pos (hb), c_isSheet]
        simp only [Option.bind_some, Option.toList_some, Option.toList_none, List.cons_append, List.nil_append, bi_eq0, bi_eq1, bi_nem, if_true, if_false, ite_not, Classical.not_not, sg11_stood_12]
        rw [if_neg (hs), ce _ 1 _ (by omega)]
        simp only [Option.bind_some, Option.toList_some, Option.toList_none, List.cons_append, List.nil_append, bi_eq0, bi_eq1, bi_nem, if_true, if_false, ite_not, Classical.not_not, sg11_stood_39]
      · rw [ec12_stood, mB _ _ _ (eC_b (by decide))]
        simp only [Option.bind_some, Option.toList_some, Option.toList_none, List.cons_append, List.nil_append, bi_eq0, bi_eq1, bi_nem, if_true, if_false, ite_not, Classical.not_not, sg12_stood_5]
        rw [if_pos (hb), m_isSheet]
        simp only [Option.bind_some, Option.toList_some, Option.toList_none, List.cons_append, List.nil_append, bi_eq0, bi_eq1, bi_nem, if_true, if_false, ite_not, Classical.not_not, sg12_stood_12]
        rw [if_neg (hs), me1]
        simp only [Option.bind_some, Option.toList_some, Option.toList_none, List.cons_append, List.nil_append, bi_eq0, bi_eq1, bi_nem, if_true, if_false, ite_not, Classical.not_not, sg12_stood_54]
  · refine PO_e (k := 1) hI (M1 := M) ?_ Ch_rf ⟨eC M 1, ?_, J6_rf⟩
    · rw [ec11_stood, cB _ _ _ rfl]
      simp only [Option.bind_some, Option.toList_some, Option.toList_none, List.cons_append, List.nil_append, bi_eq0, bi_eq1, bi_nem, if_true, if_false, ite_not, Classical.not_not, sg11_stood_5]
      rw [if_neg (hb), ce _ 1 _ (by omega)]
      simp only [Option.bind_some, Option.toList_some, Option.toList_none, List.cons_append, List.nil_append, bi_eq0, bi_eq1, bi_nem, if_true, if_false, ite_not, Classical.not_not, sg11_stood_39]
    · rw [ec12_stood, mB _ _ _ (eC_b (by decide))]
      simp only [Option.bind_some, Option.toList_some, Option.toList_none, List.cons_append, List.nil_append, bi_eq0, bi_eq1, bi_nem, if_true, if_false, ite_not, Classical.not_not, sg12_stood_5]
      rw [if_neg (hb), me1]
      simp only [Option.bind_some, Option.toList_some, Option.toList_none, List.cons_append, List.nil_append, bi_eq0, bi_eq1, bi_nem, if_true, if_false, ite_not, Classical.not_not, sg12_stood_54]
