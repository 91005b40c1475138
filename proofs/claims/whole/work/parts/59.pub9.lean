/-! the public calls: order, apart -/
theorem c_begin_l (C : am_H) : ∀ (k i : Nat) (M : am_M), i + k = 6 → (∀ q, q < i → M 56 q = nI q) → ∃ M', am_lim C (am_R i11_beginRows) (am_tx i11_beginRows) 2 [.ref 0, .int (nI i)] [] M = some (none, M') ∧ (∀ q, q < 6 → M' 56 q = nI q) ∧ Ch [56] M M'
  | 0, i, M, h, hM => by
    have : i = 6 := by omega
    subst this
    rw [sg11_beginRows_2, if_neg (by decide +kernel)]
    exact ⟨M, rfl, hM, Ch_rf⟩
  | k + 1, i, M, h, hM => by
    rw [sg11_beginRows_2]
    simp (disch := omega) only [false_or, nle9, nI_dec9, nI_add, pk_mul, pk_sub, nI_clamp, nI_in9, nI_pos9, nI_lt9, nI_le9, nI_eq9, nI_eq09, nI_le09, am_k_m1, if_true, if_false, ite_not, Classical.not_not]
    rw [if_pos (by omega)]
    obtain ⟨M2, b1, b2, b3⟩ := c_begin_l C k (i + 1) (am_up M 56 i (nI i)) (by omega) (fun q hq => by
      by_cases c : q = i
      · subst c; exact au_s
      · rw [au_j c]; exact hM q (by omega))
    exact ⟨M2, b1, b2, Ch_tr (Ch_up (by decide)) b3⟩
theorem m_first_l (C : am_H) : ∀ (k i : Nat) (M : am_M), i + k = 6 → (∀ q, q < i → M 75 q = nI q) → ∃ M', am_lim C (am_R i12_firstRow) (am_tx i12_firstRow) 2 [.ref 68, .int (nI i)] [] M = some (none, M') ∧ (∀ q, q < 6 → M' 75 q = nI q) ∧ J6 [75] M M'
  | 0, i, M, h, hM => by
    have : i = 6 := by omega
    subst this
    rw [sg12_firstRow_2, if_neg (by decide +kernel)]
    exact ⟨M, rfl, hM, J6_rf⟩
  | k + 1, i, M, h, hM => by
    rw [sg12_firstRow_2]
    simp (disch := omega) only [false_or, nle9, nI_dec9, nI_add, pk_mul, pk_sub, nI_clamp, nI_in9, nI_pos9, nI_lt9, nI_le9, nI_eq9, nI_eq09, nI_le09, am_k_m1, if_true, if_false, ite_not, Classical.not_not]
    rw [if_pos (by omega)]
    obtain ⟨M2, b1, b2, b3⟩ := m_first_l C k (i + 1) (am_up M 75 i (nI i)) (by omega) (fun q hq => by
      by_cases c : q = i
      · subst c; exact au_s
      · rw [au_j c]; exact hM q (by omega))
    exact ⟨M2, b1, b2, J6_tr (J6_up (by decide) (by decide)) b3⟩
theorem row0 {f : Nat → Int32} (h : ∀ q, q < 6 → f q = nI q) : RWL f [0, 1, 2, 3, 4, 5] := by
  have e : ∀ i, i < 6 → gd [0, 1, 2, 3, 4, 5] i = i := by decide
  exact ⟨rfl, fun i hi => by rw [e i hi]; exact hi, fun i hi => by rw [e i hi]; exact h i hi⟩
theorem m_keeps_l (C : am_H) : ∀ (k i : Nat) (M : am_M), i + k = 6 → (∀ q, q < i → M 76 q = M 75 q) → ∃ M', am_lim C (am_R i12_keepsRow) (am_tx i12_keepsRow) 2 [.ref 68, .int (nI i)] [] M = some (none, M') ∧ (∀ q, q < 6 → M' 76 q = M 75 q) ∧ J6 [76] M M'
  | 0, i, M, h, hM => by
    have : i = 6 := by omega
    subst this
    rw [sg12_keepsRow_2, if_neg (by decide +kernel)]
    exact ⟨M, rfl, hM, J6_rf⟩
  | k + 1, i, M, h, hM => by
    rw [sg12_keepsRow_2]
    simp (disch := omega) only [false_or, nle9, nI_dec9, nI_add, pk_mul, pk_sub, nI_clamp, nI_in9, nI_pos9, nI_lt9, nI_le9, nI_eq9, nI_eq09, nI_le09, am_k_m1, if_true, if_false, ite_not, Classical.not_not]
    rw [if_pos (by omega)]
    obtain ⟨M2, b1, b2, b3⟩ := m_keeps_l C k (i + 1) (am_up M 76 i (M 75 i)) (by omega) (fun q hq => by
      rw [au_b (b := 75) (by decide)]
      by_cases c : q = i
      · subst c; exact au_s
      · rw [au_j c]; exact hM q (by omega))
    exact ⟨M2, b1, fun q hq => by rw [b2 q hq, au_b (by decide)], J6_tr (J6_up (by decide) (by decide)) b3⟩
abbrev rwS (S : Nat → Int32) (nb : Nat) (r : List Nat) : Nat → Int32 := rowU S nb (fun i => nI (gd r i))
theorem c_thinkRow (d nb ng n : Nat) (hg : ng ≤ 9999) (hnn : n ≤ 12) (S : Nat → Int32) (hW : WS S nb ng) (r : List Nat) (M : am_M) (hr : RWL (M 56) r) (hp : PR (fun i => nI (gd r i)) nb) (hR : RS M 9 S nb) (hT : TR (M 33) (M 34) S 0) : ∃ M', am_call (d + 6) i11_thinkRow [.ref 0, .int (nI n)] M = some (none, M') ∧ RS M' 23 (goS (rwS S nb r) nb ng 0 n) nb ∧ Ch [23, 24, 25, 26, 27, 28, 29, 35] M M' := by
  have hn := hW.2.1
  obtain ⟨M1, a1, a2, a3⟩ := c_copyFrom (d + 4) 23 9 nb ng (by omega) S hW M hR
  rw [ec11_thinkRow, a1]
  simp only [Option.bind_some, Option.toList_some, Option.toList_none, List.cons_append, List.nil_append, bi_eq0, bi_eq1, bi_nem, if_true, if_false, ite_not, Classical.not_not, sg11_thinkRow_11]
  have hR2 : RS (am_setc M1 28 (va_cpy (M1 56) (M1 28) ((nI 0).toNatClampNeg) ((nI 0).toNatClampNeg) ((nI 6).toNatClampNeg))) 23 (rwS S nb r) nb := by
    refine RS_row a2 hn (by refine ⟨?_, ?_, ?_, ?_, ?_⟩ <;> exact stc_ne (by decide)) (fun i hi => ?_)
    show am_setc M1 28 _ 28 i = _
    rw [stc_eq, cpyE _ _ _ (by omega)]
    show (if i < 6 then _ else _) = _
    rw [if_pos (by omega), a3 56 (by decide)]
    exact hr.2.2 i (by omega)
  have hC2 : Ch [23, 24, 25, 26, 27, 28, 29, 35] M (am_setc M1 28 (va_cpy (M1 56) (M1 28) ((nI 0).toNatClampNeg) ((nI 0).toNatClampNeg) ((nI 6).toNatClampNeg))) := Ch_tr (Ch_mo a3 (by decide)) (Ch_sc (by decide))
  generalize am_setc M1 28 (va_cpy (M1 56) (M1 28) ((nI 0).toNatClampNeg) ((nI 0).toNatClampNeg) ((nI 6).toNatClampNeg)) = M2 at hR2 hC2
  obtain ⟨M3, b1, b2, b3⟩ := c_think d nb ng 0 n (by omega) (by omega) (rwS S nb r) (WS_row2 hW hp) M2 hR2 (TR_S (by omega) (by rw [hC2 33 (by decide), hC2 34 (by decide)]; exact hT) (fun j hj => rowU_hi (by omega)))
  rw [b1]
  simp only [Option.bind_some, Option.toList_some, Option.toList_none, List.cons_append, List.nil_append, bi_eq0, bi_eq1, bi_nem, if_true, if_false, ite_not, Classical.not_not, sg11_thinkRow_35]
  exact ⟨M3, rfl, b2, Ch_tr hC2 (Ch_mo b3 (by decide))⟩
theorem m_lays_r (d nb : Nat) (hn : nb ≤ 6) (n : Nat) (S : Nat → Int32) (h1 : S 1 = nI nb) (g : Nat → Int32) : ∀ (k i : Nat) (M : am_M), i + k = nb → M 69 = rowU S i g → (∀ q, q < nb → M 75 q = g q) → ∃ M', am_lim (am_call (d + 43)) (am_R i12_laysRow) (am_tx i12_laysRow) 2 [.ref 68, .int (nI n), .int (nI i)] [] M = am_lim (am_call (d + 43)) (am_R i12_laysRow) (am_tx i12_laysRow) 2 [.ref 68, .int (nI n), .int (nI nb)] [] M' ∧ M' 69 = rowU S nb g ∧ J6 [69, 73] M M'
  | 0, i, M, h, hM, h75 => by
    have : i = nb := by omega
    subst this
    exact ⟨M, rfl, hM, J6_rf⟩
  | k + 1, i, M, h, hM, h75 => by
    have e : M 69 1 = nI nb := by rw [hM, rowU_lo (by omega)]; exact h1
    obtain ⟨M2, b1, b2, b3⟩ := m_lays_r d nb hn n S h1 g k (i + 1) (am_up M 69 (56 + i) (M 75 i)) (by omega) (by
      rw [au_69, hM, h75 i (by omega)]
      funext j
      by_cases c : j = 56 + i
      · subst c; rw [upd_eq, rowU_at (by omega)]
      · rw [upd_ne c]
        unfold rowU
        by_cases c2 : 56 ≤ j ∧ j < 56 + i
        · rw [if_pos c2, if_pos (by omega)]
        · rw [if_neg c2, if_neg (by omega)]) (fun q hq => by rw [au_b (by decide)]; exact h75 q hq)
    refine ⟨M2, ?_, b2, J6_tr (J6_up (by decide) (by decide)) b3⟩
    rw [← b1, sg12_laysRow_2, e]
    simp (disch := omega) only [false_or, nle9, nI_dec9, nI_add, pk_mul, pk_sub, nI_clamp, nI_in9, nI_pos9, nI_lt9, nI_le9, nI_eq9, nI_eq09, nI_le09, am_k_m1, if_true, if_false, ite_not, Classical.not_not]
    rw [if_pos (by omega)]
theorem m_laysRow (d nb ng n : Nat) (hg : ng ≤ 9999) (hnn : n ≤ 12) (S : Nat → Int32) (hW : WS S nb ng) (hK : txK S 0) (r : List Nat) (M : am_M) (hM : M 69 = S) (hr : RWL (M 75) r) (hp : PR (fun i => nI (gd r i)) nb) : ∃ M', am_call (d + 44) i12_laysRow [.ref 68, .int (nI n)] M = some (none, M') ∧ M' 69 = goS (rwS S nb r) nb ng 0 n ∧ J6 [69, 73] M M' := by
  have hn := hW.2.1
  obtain ⟨M1, a1, a2, a3⟩ := m_lays_r d nb hn n S hW.1 (fun i => nI (gd r i)) nb 0 M (by omega) (by
    rw [hM]
    funext j
    unfold rowU
    rw [if_neg (by omega)]) (fun q hq => hr.2.2 q (by omega))
  have hW2 : WS (rwS S nb r) nb ng := WS_row2 hW hp
  obtain ⟨M2, b1, b2, b3⟩ := m_go d nb ng 0 n (by omega) (by omega) M1 (by rw [a2]; exact hW2) (by rw [a2]; exact txK_S hK (fun j hj => rowU_hi (by omega)))
  rw [ec12_laysRow]
  rw [a2] at b2
  refine ⟨M2, ?_, b2, J6_tr a3 b3⟩
  refine Eq.trans a1 ?_
  rw [sg12_laysRow_2, a2, show rowU S nb (fun i => nI (gd r i)) 1 = nI nb from hW2.1]
  simp (disch := omega) only [nI_lt9]
  rw [if_neg (by omega), pn0, b1]
  simp only [Option.bind_some, Option.toList_some, Option.toList_none, List.cons_append, List.nil_append, bi_eq0, bi_eq1, bi_nem, if_true, if_false, ite_not, Classical.not_not, sg12_laysRow_39]
def rv (S : Nat → Int32) (nb ng n : Nat) (r : List Nat) : Nat := alF (goS (rwS S nb r) nb ng 0 n) nb
def ordF (nb : Nat) (v : List Nat → Nat) : Nat → List Nat → Int32 → List Nat → Int32 × List Nat
  | 0, _, m, f => (m, f)
  | k + 1, r, m, f => match nx nb r with
    | none => if nI (v r) ≤ m then (m, f) else (nI (v r), r)
    | some r' => if nI (v r) ≤ m then ordF nb v k r' m f else ordF nb v k r' (nI (v r)) r
def fdR (f : Nat → Int32) (m : Int32) (l : List Nat) : Prop := m = -1 ∨ ∀ q, q < 6 → f q = nI (gd l q)
theorem c_best_l (d nb ng n : Nat) (hg : ng ≤ 9999) (hnn : n ≤ 12) (S : Nat → Int32) (hW : WS S nb ng) : ∀ (k i : Nat) (r f : List Nat) (m : Int32) (w : Value) (M : am_M), i + k = 720 → ends nb k r = true → RWL (M 56) r → fdR (M 57) m f → RS M 9 S nb → TR (M 33) (M 34) S 0 → TR (M 37) (M 38) S 1 → ∃ M', am_lim (am_call (d + 6)) (am_R i11_findBestRow) (am_tx i11_findBestRow) 11 [.ref 0, .int (nI n), .int m, .int (nI 1), .int (nI i), w] [] M = some (some (.int (ordF nb (rv S nb ng n) k r m f).1), M') ∧ fdR (M' 57) (ordF nb (rv S nb ng n) k r m f).1 (ordF nb (rv S nb ng n) k r m f).2 ∧ Ch [23, 24, 25, 26, 27, 28, 29, 35, 39, 56, 57] M M'
  | 0, i, r, f, m, w, M, h, he, hr, hf, hR, hT, hT1 => by cases he
  | k + 1, i, r, f, m, w, M, h, he, hr, hf, hR, hT, hT1 => by
    have hn := hW.2.1
    unfold ends at he
    rw [Bool.and_eq_true] at he
    have hok := he.1
    have he2 := he.2
    rw [sg11_findBestRow_11, if_neg (by decide +kernel)]
    simp (disch := omega) only [nI_lt9]
    rw [if_pos (by omega)]
    have hp := okr_PR hok hn
    obtain ⟨M1, a1, a2, a3⟩ := c_thinkRow d nb ng n hg hnn S hW r M hr hp hR hT
    rw [a1]
    simp only [Option.bind_some, Option.toList_some, Option.toList_none, List.cons_append, List.nil_append, bi_eq0, bi_eq1, bi_nem, if_true, if_false, ite_not, Classical.not_not, sg11_findBestRow_28]
    have hW2 := goS_WS (pn := 0) (WS_row2 hW hp) n
    obtain ⟨M2, b1, b2⟩ := c_allSense (d + 1) 23 nb (by omega) hn (goS (rwS S nb r) nb ng 0 n) hW2.1 M1 a2 (by
      rw [a3 37 (by decide), a3 38 (by decide)]
      exact TR_S (by omega) hT1 (fun j hj => (goS_hi (WS_row2 hW hp) (by omega) n).trans (rowU_hi (by omega))))
    rw [b1]
    simp only [Option.bind_some, Option.toList_some, Option.toList_none, List.cons_append, List.nil_append, bi_eq0, bi_eq1, bi_nem, if_true, if_false, ite_not, Classical.not_not, sg11_findBestRow_39]
    have hC2 : Ch [23, 24, 25, 26, 27, 28, 29, 35, 39, 56, 57] M M2 := Ch_tr (Ch_mo a3 (by decide)) (Ch_mo b2 (by decide))
    have c56 : M2 56 = M 56 := (b2 56 (by decide)).trans (a3 56 (by decide))
    have c57 : M2 57 = M 57 := (b2 57 (by decide)).trans (a3 57 (by decide))
    -- goes on with a row found or not
    have go : ∀ (m' : Int32) (f' : List Nat) (M3 : am_M) (w' : Value), Ch [23, 24, 25, 26, 27, 28, 29, 35, 39, 56, 57] M M3 → M3 56 = M 56 → M3 9 7 = nI nb → fdR (M3 57) m' f' → ∃ M', (am_call (d + 6) i11_nextRow [.ref 0] M3).bind (fun q => am_lim (am_call (d + 6)) (am_R i11_findBestRow) (am_tx i11_findBestRow) 69 [.ref 0, .int (nI n), .int m', .int (nI 1), .int (nI i), .int (nI (rv S nb ng n r))] (q.1.toList ++ []) q.2) = some (some (.int (match nx nb r with
        | none => (m', f')
        | some r' => ordF nb (rv S nb ng n) k r' m' f').1), M') ∧ fdR (M' 57) (match nx nb r with
        | none => (m', f')
        | some r' => ordF nb (rv S nb ng n) k r' m' f').1 (match nx nb r with
        | none => (m', f')
        | some r' => ordF nb (rv S nb ng n) k r' m' f').2 ∧ Ch [23, 24, 25, 26, 27, 28, 29, 35, 39, 56, 57] M M' := by
      intro m' f' M3 w' h3 h56 h97 h57
      obtain ⟨M4, e1, e2, e3⟩ := c_nextRow (d + 4) nb hn r M3 h97 (by rw [h56]; exact hr)
      rw [e1]
      simp only [Option.bind_some, Option.toList_some, Option.toList_none, List.cons_append, List.nil_append, bi_eq0, bi_eq1, bi_nem, if_true, if_false, ite_not, Classical.not_not, sg11_findBestRow_69]
      have hC4 : Ch [23, 24, 25, 26, 27, 28, 29, 35, 39, 56, 57] M M4 := Ch_tr h3 (Ch_mo e2 (by decide))
      cases hq : nx nb r with
      | none =>
        rw [show nxB none = nI 0 from rfl, sg11_findBestRow_11, if_pos nI_0]
        exact ⟨M4, rfl, by rw [e2 57 (by decide)]; exact h57, hC4⟩
      | some r' =>
        rw [hq] at he2
        rw [show nxB (some r') = nI 1 from rfl, nI_add]
        obtain ⟨M5, g1, g2, g3⟩ := c_best_l d nb ng n hg hnn S hW k (i + 1) r' f' m' (.int (nI (rv S nb ng n r))) M4 (by omega) he2 (e3 r' hq) (by rw [e2 57 (by decide)]; exact h57) (RS_ch hR (by refine ⟨?_, ?_, ?_, ?_, ?_, ?_⟩ <;> exact hC4 _ (by decide))) (by rw [hC4 33 (by decide), hC4 34 (by decide)]; exact hT) (by rw [hC4 37 (by decide), hC4 38 (by decide)]; exact hT1)
        exact ⟨M5, g1, g2, Ch_tr hC4 g3⟩
    have h97 : ∀ M3, Ch [23, 24, 25, 26, 27, 28, 29, 35, 39, 56, 57] M M3 → M3 9 7 = nI nb := fun M3 h3 => by rw [h3 9 (by decide)]; exact hR.1.trans hW.1
    have hv : nI (alF (goS (rwS S nb r) nb ng 0 n) nb) = nI (rv S nb ng n r) := rfl
    rw [hv]
    unfold ordF
    by_cases cc : nI (rv S nb ng n r) ≤ m
    · rw [if_pos cc]
      have hg2 := go m f M2 w hC2 c56 (h97 _ hC2) (by rw [c57]; exact hf)
      cases hq : nx nb r with
      | none => rw [hq] at hg2; dsimp only at hg2 ⊢; rw [if_pos cc]; exact hg2
      | some r' => rw [hq] at hg2; dsimp only at hg2 ⊢; rw [if_pos cc]; exact hg2
    · rw [if_neg cc]
      have hC3 : Ch [23, 24, 25, 26, 27, 28, 29, 35, 39, 56, 57] M (am_setc M2 57 (va_cpy (M2 56) (M2 57) ((nI 0).toNatClampNeg) ((nI 0).toNatClampNeg) ((nI 6).toNatClampNeg))) := Ch_tr hC2 (Ch_sc (by decide))
      have hg2 := go (nI (rv S nb ng n r)) r _ w hC3 ((stc_ne (by decide)).trans c56) (h97 _ hC3) (Or.inr (fun q hq => by
        rw [stc_eq, cpyE _ _ _ (by omega)]
        show (if q < 6 then _ else _) = _
        rw [if_pos hq, c56]
        exact hr.2.2 q hq))
      cases hq : nx nb r with
      | none => rw [hq] at hg2; dsimp only at hg2 ⊢; rw [if_neg cc]; exact hg2
      | some r' => rw [hq] at hg2; dsimp only at hg2 ⊢; rw [if_neg cc]; exact hg2
theorem m_best_l (d nb ng n : Nat) (hg : ng ≤ 9999) (hnn : n ≤ 12) (S : Nat → Int32) (hW : WS S nb ng) (hK : txK S 0) (hK1 : txK S 1) (x2 : Int32) : ∀ (k : Nat) (r f : List Nat) (m : Int32) (w : Value) (M : am_M), ends nb k r = true → RWL (M 75) r → fdR (M 76) m f → M 69 = S → AS M S → ∃ M' w', am_lim (am_call (d + 44)) (am_R i12_order) (am_tx i12_order) 52 [.ref 68, .int (nI n), .int x2, .int m, .int (nI 1), w] [] M = am_lim (am_call (d + 44)) (am_R i12_order) (am_tx i12_order) 52 [.ref 68, .int (nI n), .int x2, .int (ordF nb (rv S nb ng n) k r m f).1, .int (nI 0), w'] [] M' ∧ fdR (M' 76) (ordF nb (rv S nb ng n) k r m f).1 (ordF nb (rv S nb ng n) k r m f).2 ∧ M' 69 = S ∧ J6 [69, 73, 75, 76] M M'
  | 0, r, f, m, w, M, he, hr, hf, hM, hA => by cases he
  | k + 1, r, f, m, w, M, he, hr, hf, hM, hA => by
    have hn := hW.2.1
    unfold ends at he
    rw [Bool.and_eq_true] at he
    have hok := he.1
    have he2 := he.2
    rw [sg12_order_52, if_neg (by decide +kernel)]
    have hp := okr_PR hok hn
    obtain ⟨M1, a1, a2, a3⟩ := m_laysRow d nb ng n hg hnn S hW hK r M hM hr hp
    rw [a1]
    simp only [Option.bind_some, Option.toList_some, Option.toList_none, List.cons_append, List.nil_append, bi_eq0, bi_eq1, bi_nem, if_true, if_false, ite_not, Classical.not_not, sg12_order_62]
    have hW2 := goS_WS (pn := 0) (WS_row2 hW hp) n
    have hhi : ∀ j, 62 ≤ j → goS (rwS S nb r) nb ng 0 n j = S j := fun j hj => (goS_hi (WS_row2 hW hp) (by omega) n).trans (rowU_hi (by omega))
    obtain ⟨M2, b1, b2⟩ := m_allSense (d + 1) nb hn M1 (by rw [a2]; exact hW2.1) (by rw [a2]; exact txK_S hK1 hhi)
    rw [a2] at b1
    rw [b1]
    simp only [Option.bind_some, Option.toList_some, Option.toList_none, List.cons_append, List.nil_append, bi_eq0, bi_eq1, bi_nem, if_true, if_false, ite_not, Classical.not_not, sg12_order_67]
    have hv : nI (alF (goS (rwS S nb r) nb ng 0 n) nb) = nI (rv S nb ng n r) := rfl
    rw [hv]
    have f2 : M2 69 = goS (rwS S nb r) nb ng 0 n := (J68_69 b2).trans a2
    have hJ2 : J6 [69, 73, 75, 76] M M2 := J6_tr (J6_mo a3 (by decide)) (J6_J b2)
    have hA2 := AS_J hA hJ2 (by decide)
    obtain ⟨M3, e1, e2, e3⟩ := m_back (d + 43) (nI (rv S nb ng n r)) S M2 hA2 (fun j hj => by rw [f2]; exact hhi j hj)
    rw [e1]
    simp only [Option.bind_some, Option.toList_some, Option.toList_none, List.cons_append, List.nil_append, bi_eq0, bi_eq1, bi_nem, if_true, if_false, ite_not, Classical.not_not, sg12_order_70]
    have hJ3 : J6 [69, 73, 75, 76] M M3 := J6_tr hJ2 (J6_mo e3 (by decide))
    have c75 : M3 75 = M 75 := (e3.1 75 (by decide) (by decide)).trans ((b2.1 75 (by decide)).trans (a3.1 75 (by decide) (by decide)))
    have c76 : M3 76 = M 76 := (e3.1 76 (by decide) (by decide)).trans ((b2.1 76 (by decide)).trans (a3.1 76 (by decide) (by decide)))
    have go : ∀ (m' : Int32) (f' : List Nat) (M4 : am_M), J6 [69, 73, 75, 76] M M4 → M4 75 = M 75 → M4 69 = S → fdR (M4 76) m' f' → ∃ M' w', am_lim (am_call (d + 44)) (am_R i12_order) (am_tx i12_order) 85 [.ref 68, .int (nI n), .int x2, .int m', .int (nI 1), .int (nI (rv S nb ng n r))] [] M4 = am_lim (am_call (d + 44)) (am_R i12_order) (am_tx i12_order) 52 [.ref 68, .int (nI n), .int x2, .int (match nx nb r with
        | none => (m', f')
        | some r' => ordF nb (rv S nb ng n) k r' m' f').1, .int (nI 0), w'] [] M' ∧ fdR (M' 76) (match nx nb r with
        | none => (m', f')
        | some r' => ordF nb (rv S nb ng n) k r' m' f').1 (match nx nb r with
        | none => (m', f')
        | some r' => ordF nb (rv S nb ng n) k r' m' f').2 ∧ M' 69 = S ∧ J6 [69, 73, 75, 76] M M' := by
      intro m' f' M4 h4 h75 h69 h76
      obtain ⟨M5, g1, g2, g3⟩ := m_nextRow (d + 43) nb hn r M4 (by rw [h69]; exact hW.1) (by rw [h75]; exact hr)
      rw [sg12_order_85, g1]
      simp only [Option.bind_some, Option.toList_some, Option.toList_none, List.cons_append, List.nil_append, bi_eq0, bi_eq1, bi_nem, if_true, if_false, ite_not, Classical.not_not, sg12_order_89]
      have hJ5 : J6 [69, 73, 75, 76] M M5 := J6_tr h4 (J6_mo g2 (by decide))
      have f69 : M5 69 = S := (g2.1 69 (by decide) (by decide)).trans h69
      have f76 : M5 76 = M4 76 := g2.1 76 (by decide) (by decide)
      cases hq : nx nb r with
      | none => exact ⟨M5, _, rfl, by rw [f76]; exact h76, f69, hJ5⟩
      | some r' =>
        rw [hq] at he2
        obtain ⟨M6, w6, k1, k2, k3, k4⟩ := m_best_l d nb ng n hg hnn S hW hK hK1 x2 k r' f' m' (.int (nI (rv S nb ng n r))) M5 he2 (g3 r' hq) (by rw [f76]; exact h76) f69 (AS_J hA hJ5 (by decide))
        exact ⟨M6, w6, k1, k2, k3, J6_tr hJ5 k4⟩
    unfold ordF
    by_cases cc : nI (rv S nb ng n r) ≤ m
    · rw [if_pos cc]
      have hg2 := go m f M3 hJ3 c75 e2 (by rw [c76]; exact hf)
      cases hq : nx nb r with
      | none => rw [hq] at hg2; dsimp only at hg2 ⊢; rw [if_pos cc]; exact hg2
      | some r' => rw [hq] at hg2; dsimp only at hg2 ⊢; rw [if_pos cc]; exact hg2
    · rw [if_neg cc, ec12_keepsRow]
      obtain ⟨M4, g1, g2, g3⟩ := m_keeps_l (am_call (d + 43)) 6 0 M3 rfl (fun q hq => by omega)
      rw [g1]
      simp only [Option.bind_some, Option.toList_some, Option.toList_none, List.cons_append, List.nil_append, bi_eq0, bi_eq1, bi_nem, if_true, if_false, ite_not, Classical.not_not]
      have hg2 := go (nI (rv S nb ng n r)) r M4 (J6_tr hJ3 (J6_mo g3 (by decide))) ((g3.1 75 (by decide) (by decide)).trans c75) ((g3.1 69 (by decide) (by decide)).trans e2) (Or.inr (fun q hq => by
        rw [g2 q hq, c75]
        exact hr.2.2 q hq))
      cases hq : nx nb r with
      | none => rw [hq] at hg2; dsimp only at hg2 ⊢; rw [if_neg cc]; exact hg2
      | some r' => rw [hq] at hg2; dsimp only at hg2 ⊢; rw [if_neg cc]; exact hg2
theorem ordF_ne (nb : Nat) (v : List Nat → Nat) (hv : ∀ r, v r < 2147483648) : ∀ (k : Nat) (r f : List Nat) (m : Int32), m ≠ -1 → (ordF nb v k r m f).1 ≠ -1
  | 0, r, f, m, h => h
  | k + 1, r, f, m, h => by
    have hne : nI (v r) ≠ -1 := fun q => by
      have := nI_toInt (hv r)
      rw [q, i32_m1] at this
      omega
    unfold ordF
    cases nx nb r with
    | none =>
      dsimp only
      by_cases c : nI (v r) ≤ m
      · rw [if_pos c]; exact h
      · rw [if_neg c]; exact hne
    | some r' =>
      dsimp only
      by_cases c : nI (v r) ≤ m
      · rw [if_pos c]; exact ordF_ne nb v hv k r' f m h
      · rw [if_neg c]; exact ordF_ne nb v hv k r' r _ hne
theorem ordF_ne1 (nb : Nat) (v : List Nat → Nat) (hv : ∀ r, v r < 2147483648) (k : Nat) (r f : List Nat) : (ordF nb v (k + 1) r (-1) f).1 ≠ -1 := by
  have hne : nI (v r) ≠ -1 := fun q => by
    have := nI_toInt (hv r)
    rw [q, i32_m1] at this
    omega
  have hc : ¬ nI (v r) ≤ -1 := fun q => by
    rw [i32_le, nI_toInt (hv r), i32_m1] at q
    omega
  unfold ordF
  cases nx nb r with
  | none => dsimp only; rw [if_neg hc]; exact hne
  | some r' => dsimp only; rw [if_neg hc]; exact ordF_ne nb v hv k r' r _ hne
theorem soF_le (S : Nat → Int32) (b : Nat) : ∀ k, soF S b k ≤ k
  | 0 => Nat.le_refl _
  | k + 1 => by
    show soF S b k + (if sn1 S b k = 0 then 0 else 1) ≤ k + 1
    have := soF_le S b k
    split <;> omega
theorem alF_le (S : Nat → Int32) : ∀ n, alF S n ≤ 5 * n
  | 0 => Nat.le_refl _
  | n + 1 => by
    show alF S n + soF S n 5 ≤ 5 * (n + 1)
    have := alF_le S n
    have := soF_le S n 5
    omega
theorem rv_lt (S : Nat → Int32) (nb ng n : Nat) (hn : nb ≤ 6) (r : List Nat) : rv S nb ng n r < 2147483648 := by
  have := alF_le (goS (rwS S nb r) nb ng 0 n) nb
  unfold rv
  omega
theorem po_order (d : Nat) (n w : Int32) (M : am_M) (hI : IV M M) : PO d i11_order i12_order [.int n, .int w] M := by
  obtain ⟨nb, ng, hW, hg, hR, hD⟩ := hI.1
  have hn := hW.2.1
  have h7 : M 9 7 = nI nb := hR.1.trans hW.1
  have h8 : M 9 8 = nI ng := hR.2.1.trans hW.2.2.1
  have cB : ∀ (d' : Nat) (x : Int32) (N : am_M), N 9 7 = M 9 7 → am_call (d' + 2) i11_isBook [.ref 0, .int x] N = some (some (.int (bi (0 ≤ x.toInt ∧ x.toInt < nb))), N) := fun d' x N h => c_isBook d' x N nb (h.trans h7) hn
  have cP : ∀ (d' : Nat) (x : Int32) (N : am_M), N 9 7 = M 9 7 → am_call (d' + 2) i11_isPlace [.ref 0, .int x] N = some (some (.int (bi (0 ≤ x.toInt ∧ x.toInt < nb))), N) := fun d' x N h => c_isPlace d' x N nb (h.trans h7) hn
  have cPB : ∀ (d' : Nat) (x y : Int32) (N : am_M), N 9 7 = M 9 7 → am_call (d' + 3) i11_isPageOfBook [.ref 0, .int x, .int y] N = some (some (.int (bi ((0 ≤ x.toInt ∧ x.toInt < nb) ∧ 0 ≤ y.toInt ∧ y.toInt < 6))), N) := fun d' x y N h => c_isPageOfBook d' x y N nb (h.trans h7) hn
  have mB : ∀ (d' : Nat) (x : Int32) (N : am_M), N 69 = M 69 → am_call (d' + 2) i12_isBook [.ref 68, .int x] N = some (some (.int (bi (0 ≤ x.toInt ∧ x.toInt < nb))), N) := fun d' x N h => m_isBook d' x N nb (by rw [h]; exact hW.1) hn
  have cM : ∀ (d' : Nat) (x : Int32) (N : am_M), am_call (d' + 1) i11_isWithin [.int x, .int (nI 0), .int (nI 12)] N = some (some (.int (bi (0 ≤ x.toInt ∧ x.toInt < 13))), N) := fun d' x N => (cW d' x 0 12 N (by omega) (by omega)).trans (bi_out (by omega))
  have mM : ∀ (d' : Nat) (x : Int32) (N : am_M), am_call (d' + 1) i12_in [.long x.toInt64, .long (lN 0), .long (lN 12)] N = some (some (.int (bi (0 ≤ x.toInt ∧ x.toInt < 13))), N) := fun d' x N => (mW d' x 0 12 N (by omega) (by omega)).trans (bi_out (by omega))
  have cRQ : ∀ (d' : Nat) (x : Int32) (N : am_M), N 9 7 = M 9 7 → am_call (d' + 3) i11_isRowQuestion [.ref 0, .int x] N = some (some (.int (bi (x = -1 ∨ (0 ≤ x.toInt ∧ x.toInt < nb)))), N) := fun d' x N h => c_isRowQuestion d' x N nb (h.trans h7) hn
  have mRQ : ∀ (d' : Nat) (x : Int32) (N : am_M), N 69 = M 69 → am_call (d' + 1) i12_in [.long x.toInt64, .long (am_kl (-1)), .long (N 69 1 - nI 1).toInt64] N = some (some (.int (bi (x = -1 ∨ (0 ≤ x.toInt ∧ x.toInt < nb)))), N) := fun d' x N h => (m_in d' _ _ _ N).trans (bi_out (by
    rw [h, hW.1, Int32.toInt_toInt64, Int32.toInt_toInt64, am_kl_int (by omega) (by omega), pk_sub_toInt (by omega) (by omega), i32_eq, i32_m1]
    omega))
  by_cases hn0 : 0 ≤ n.toInt ∧ n.toInt < 13
  · by_cases hw : w = -1 ∨ (0 ≤ w.toInt ∧ w.toInt < nb)
    · obtain ⟨n', hn', rfl⟩ := i32_of (n := 13) hn0.1 hn0.2 (by omega)
      obtain ⟨M1, a1, a2, a3⟩ := c_begin_l (am_call (d + 57)) 6 0 M rfl (fun q hq => by omega)
      have hb1 : am_call (d + 58) i11_beginRows [.ref 0] M = some (none, M1) := (ec11_beginRows _ _).trans a1
      obtain ⟨M2, b1, b2, b3⟩ := c_best_l (d + 52) nb ng n' hg (by omega) (M 69) hW 720 0 [0, 1, 2, 3, 4, 5] [] (-1) .null M1 rfl (ends_all hn) (row0 a2) (Or.inl rfl) (RS_ch hR (by refine ⟨?_, ?_, ?_, ?_, ?_, ?_⟩ <;> exact a3 _ (by decide))) (by rw [a3 33 (by decide), a3 34 (by decide)]; exact hD.2.2.2.2.2.2.2.1) (by rw [a3 37 (by decide), a3 38 (by decide)]; exact hD.2.2.2.2.2.2.2.2)
      have hC : Ch Cs M M2 := Ch_tr (Ch_mo a3 (by decide)) (Ch_mo b3 (by decide))
      have f69 : M2 69 = M 69 := hC 69 (by decide)
      have hbest : am_call (d + 59) i11_findBestRow [.ref 0, .int (nI n')] M = some (some (.int (ordF nb (rv (M 69) nb ng n') 720 [0, 1, 2, 3, 4, 5] (-1) []).1), M2) := by
        rw [ec11_findBestRow, hb1]
        simp only [Option.bind_some, Option.toList_some, Option.toList_none, List.cons_append, List.nil_append, bi_eq0, bi_eq1, bi_nem, if_true, if_false, ite_not, Classical.not_not, sg11_findBestRow_4]
        rw [am_k_m1]
        exact b1
      obtain ⟨N1, q1, q2, q3⟩ := m_lays (d + 58) M2
      rw [f69] at q2
      have g69 : N1 69 = M 69 := (q3.1 69 (by decide) (by decide)).trans f69
      obtain ⟨N2, s1, s2, s3⟩ := m_first_l (am_call (d + 58)) 6 0 N1 rfl (fun q hq => by omega)
      have hf1 : am_call (d + 59) i12_firstRow [.ref 68] N1 = some (none, N2) := (ec12_firstRow _ _).trans s1
      obtain ⟨N3, w3, t1, t2, t3, t4⟩ := m_best_l (d + 15) nb ng n' hg (by omega) (M 69) hW (TR_K hD.2.2.2.2.2.2.2.1) (TR_K hD.2.2.2.2.2.2.2.2) w 720 [0, 1, 2, 3, 4, 5] [] (-1) .null N2 (ends_all hn) (row0 s2) (Or.inl rfl) ((s3.1 69 (by decide) (by decide)).trans g69) (AS_J q2 s3 (by decide))
      have hne := ordF_ne1 nb (rv (M 69) nb ng n') (rv_lt (M 69) nb ng n' hn) 719 [0, 1, 2, 3, 4, 5] []
      have hmod : am_call (d + 60) i12_order [.ref 68, .int (nI n'), .int w] M2 = am_lim (am_call (d + 59)) (am_R i12_order) (am_tx i12_order) 52 [.ref 68, .int (nI n'), .int w, .int (ordF nb (rv (M 69) nb ng n') 720 [0, 1, 2, 3, 4, 5] (-1) []).1, .int (nI 0), w3] [] N3 := by
        rw [ec12_order, mM]
        simp only [Option.bind_some, Option.toList_some, Option.toList_none, List.cons_append, List.nil_append, bi_eq0, bi_eq1, bi_nem, if_true, if_false, ite_not, Classical.not_not, sg12_order_9]
        rw [if_pos (hn0), mRQ _ _ _ f69]
        simp only [Option.bind_some, Option.toList_some, Option.toList_none, List.cons_append, List.nil_append, bi_eq0, bi_eq1, bi_nem, if_true, if_false, ite_not, Classical.not_not, sg12_order_29]
        rw [if_pos (hw), q1]
        simp only [Option.bind_some, Option.toList_some, Option.toList_none, List.cons_append, List.nil_append, bi_eq0, bi_eq1, bi_nem, if_true, if_false, ite_not, Classical.not_not, sg12_order_43]
        rw [hf1]
        simp only [Option.bind_some, Option.toList_some, Option.toList_none, List.cons_append, List.nil_append, bi_eq0, bi_eq1, bi_nem, if_true, if_false, ite_not, Classical.not_not, sg12_order_47]
        rw [am_k_m1]
        exact t1
      have hJ3 : J6 Ms M2 N3 := J6_69 (J6_tr (J6_tr (J6_mo q3 (by decide)) (J6_mo s3 (by decide))) (J6_mo t4 (by decide))) (t3.trans f69.symm)
      generalize ordF nb (rv (M 69) nb ng n') 720 [0, 1, 2, 3, 4, 5] (-1) [] = R at b2 hbest t2 hne hmod
      have x57 := b2.resolve_left hne
      have x76 := t2.resolve_left hne
      rcases hw with hw1 | hw1
      · have hneg : w < 0 := by rw [hw1]; decide +kernel
        refine PO_a hI (r := R.1) (M1 := M2) ?_ hC ⟨N3, ?_, hJ3⟩
        · rw [ec11_order, cM]
          simp only [Option.bind_some, Option.toList_some, Option.toList_none, List.cons_append, List.nil_append, bi_eq0, bi_eq1, bi_nem, if_true, if_false, ite_not, Classical.not_not, sg11_order_7]
          rw [if_pos (hn0), cRQ _ _ _ rfl]
          simp only [Option.bind_some, Option.toList_some, Option.toList_none, List.cons_append, List.nil_append, bi_eq0, bi_eq1, bi_nem, if_true, if_false, ite_not, Classical.not_not, sg11_order_15]
          rw [if_pos (Or.inl hw1)]
          rw [hbest]
          simp only [Option.bind_some, Option.toList_some, Option.toList_none, List.cons_append, List.nil_append, bi_eq0, bi_eq1, bi_nem, if_true, if_false, ite_not, Classical.not_not, sg11_order_29]
          rw [if_pos (hneg)]
        · rw [hmod, sg12_order_52, if_pos (nI_0), if_pos (hneg)]
      · have hw1' := hw1
        obtain ⟨w', hw', rfl⟩ := i32_of (n := nb) hw1.1 hw1.2 (by omega)
        refine PO_a hI (r := nI (gd R.2 w')) (M1 := M2) ?_ hC ⟨N3, ?_, hJ3⟩
        · rw [ec11_order, cM]
          simp only [Option.bind_some, Option.toList_some, Option.toList_none, List.cons_append, List.nil_append, bi_eq0, bi_eq1, bi_nem, if_true, if_false, ite_not, Classical.not_not, sg11_order_7]
          rw [if_pos (hn0), cRQ _ _ _ rfl]
          simp only [Option.bind_some, Option.toList_some, Option.toList_none, List.cons_append, List.nil_append, bi_eq0, bi_eq1, bi_nem, if_true, if_false, ite_not, Classical.not_not, sg11_order_15]
          rw [if_pos (Or.inr hw1')]
          rw [hbest]
          simp only [Option.bind_some, Option.toList_some, Option.toList_none, List.cons_append, List.nil_append, bi_eq0, bi_eq1, bi_nem, if_true, if_false, ite_not, Classical.not_not, sg11_order_29]
          rw [if_neg (nI_pos (by omega))]
          simp (disch := omega) only [false_or, nle9, nI_dec9, nI_add, pk_mul, pk_sub, nI_clamp, nI_in9, nI_pos9, nI_lt9, nI_le9, nI_eq9, nI_eq09, nI_le09, am_k_m1, if_true, if_false, ite_not, Classical.not_not]
          rw [x57 w' (by omega)]
        · rw [hmod, sg12_order_52, if_pos (nI_0), if_neg (nI_pos (by omega))]
          simp (disch := omega) only [false_or, nle9, nI_dec9, nI_add, pk_mul, pk_sub, nI_clamp, nI_in9, nI_pos9, nI_lt9, nI_le9, nI_eq9, nI_eq09, nI_le09, am_k_m1, if_true, if_false, ite_not, Classical.not_not]
          rw [x76 w' (by omega)]
    · refine PO_e (k := 1) hI (M1 := M) ?_ Ch_rf ⟨eC M 1, ?_, J6_rf⟩
      · rw [ec11_order, cM]
        simp only [Option.bind_some, Option.toList_some, Option.toList_none, List.cons_append, List.nil_append, bi_eq0, bi_eq1, bi_nem, if_true, if_false, ite_not, Classical.not_not, sg11_order_7]
        rw [if_pos (hn0), cRQ _ _ _ rfl]
        simp only [Option.bind_some, Option.toList_some, Option.toList_none, List.cons_append, List.nil_append, bi_eq0, bi_eq1, bi_nem, if_true, if_false, ite_not, Classical.not_not, sg11_order_15]
        rw [if_neg (hw), ce _ 1 _ (by omega)]
        simp only [Option.bind_some, Option.toList_some, Option.toList_none, List.cons_append, List.nil_append, bi_eq0, bi_eq1, bi_nem, if_true, if_false, ite_not, Classical.not_not, sg11_order_23]
      · rw [ec12_order, mM]
        simp only [Option.bind_some, Option.toList_some, Option.toList_none, List.cons_append, List.nil_append, bi_eq0, bi_eq1, bi_nem, if_true, if_false, ite_not, Classical.not_not, sg12_order_9]
        rw [if_pos (hn0), mRQ _ _ _ (eC_b (by decide))]
        simp only [Option.bind_some, Option.toList_some, Option.toList_none, List.cons_append, List.nil_append, bi_eq0, bi_eq1, bi_nem, if_true, if_false, ite_not, Classical.not_not, sg12_order_29]
        rw [if_neg (hw), me1]
        simp only [Option.bind_some, Option.toList_some, Option.toList_none, List.cons_append, List.nil_append, bi_eq0, bi_eq1, bi_nem, if_true, if_false, ite_not, Classical.not_not, sg12_order_38]
  · refine PO_e (k := 1) hI (M1 := M) ?_ Ch_rf ⟨eC M 1, ?_, J6_rf⟩
    · rw [ec11_order, cM]
      simp only [Option.bind_some, Option.toList_some, Option.toList_none, List.cons_append, List.nil_append, bi_eq0, bi_eq1, bi_nem, if_true, if_false, ite_not, Classical.not_not, sg11_order_7]
      rw [if_neg (hn0), ce _ 1 _ (by omega)]
      simp only [Option.bind_some, Option.toList_some, Option.toList_none, List.cons_append, List.nil_append, bi_eq0, bi_eq1, bi_nem, if_true, if_false, ite_not, Classical.not_not, sg11_order_23]
    · rw [ec12_order, mM]
      simp only [Option.bind_some, Option.toList_some, Option.toList_none, List.cons_append, List.nil_append, bi_eq0, bi_eq1, bi_nem, if_true, if_false, ite_not, Classical.not_not, sg12_order_9]
      rw [if_neg (hn0), me1]
      simp only [Option.bind_some, Option.toList_some, Option.toList_none, List.cons_append, List.nil_append, bi_eq0, bi_eq1, bi_nem, if_true, if_false, ite_not, Classical.not_not, sg12_order_38]
def oCi (o : Option Int32) (e : Nat) (M : am_M) : am_Res := match o with
  | some j => some (some (.int j), M)
  | none => some (some (.int (eR e)), eC M e)
def oMi (o : Option Int32) (e : Nat) (M : am_M) : am_Res := match o with
  | some j => some (some (.int j), M)
  | none => some (some (.int (eR e)), eM M e)
theorem PO_oi {d i j e : Nat} {as : List Value} {M M1 : am_M} (o : Option Int32) (hI : IV M M) (h1 : am_call (d + 60) i (.ref 0 :: as) M = oCi o e M1) (hC : Ch Cs M M1) (h2 : ∀ N, Ch (67 :: Cs) M N → ∃ N', am_call (d + 60) j (.ref 68 :: as) N = oMi o e N' ∧ J6 Ms N N') : PO d i j as M := by
  cases o with
  | some v => exact PO_a hI h1 hC (h2 M1 (Ch_mo hC (fun a ha => List.mem_cons_of_mem _ ha)))
  | none => exact PO_e (k := e) hI h1 hC (h2 (eC M1 e) (Ch_tr (Ch_mo hC (fun a ha => List.mem_cons_of_mem _ ha)) (Ch_up (List.mem_cons_self ..))))
def apF (v : Nat → Nat) (pr : Nat → Int32) : Nat → Nat → Int32 → Int32 → Int32 × Int32
  | 0, _, m, b => (m, b)
  | k + 1, p, m, b => if nI (v p) ≤ m then apF v pr k (p + 1) m b else apF v pr k (p + 1) (nI (v p)) (pr p)
def apE (x : Int32) (q : Int32 × Int32) : Option Int32 := if q.1 < 0 then none else some (if x = 0 then q.2 else q.1)
abbrev apV (S : Nat → Int32) (nb ng n : Nat) : Nat → Nat := fun p => alF (goS S nb ng (p + 1) n) nb
abbrev apP (S : Nat → Int32) : Nat → Int32 := fun p => nI 10 * S (56 + p) + S (56 + (p + 1))
theorem c_apart_l (d nb ng n : Nat) (hg : ng ≤ 9999) (hnn : n ≤ 60) (x2 : Int32) (S : Nat → Int32) (hW : WS S nb ng) : ∀ (k p : Nat) (m b : Int32) (w : Value) (M : am_M), p + k = nb - 1 → RS M 9 S nb → TR (M 33) (M 34) S 0 → TR (M 37) (M 38) S 1 → ∃ M', am_lim (am_call (d + 5)) (am_R i11_apart) (am_tx i11_apart) 33 [.ref 0, .int (nI n), .int x2, .int m, .int b, .int (nI (p + 1)), w] [] M = oCi (apE x2 (apF (apV S nb ng n) (apP S) k p m b)) 2 M' ∧ Ch [23, 24, 25, 26, 27, 28, 29, 35, 39] M M'
  | 0, p, m, b, w, M, h, hR, hT, hT1 => by
    have hn := hW.2.1
    rw [sg11_apart_33, hR.1, hW.1]
    simp (disch := omega) only [nI_lt9]
    rw [if_neg (by omega)]
    show ∃ M', _ = oCi (if m < 0 then none else some (if x2 = 0 then b else m)) 2 M' ∧ _
    by_cases c : m < 0
    · rw [if_pos c, if_pos c, ce _ 2 _ (by omega)]
      simp only [Option.bind_some, Option.toList_some, Option.toList_none, List.cons_append, List.nil_append, bi_eq0, bi_eq1, bi_nem, if_true, if_false, ite_not, Classical.not_not, sg11_apart_128]
      exact ⟨M, rfl, Ch_rf⟩
    · rw [if_neg c, if_neg c]
      by_cases c2 : x2 = 0
      · rw [if_pos c2, if_pos c2]; exact ⟨M, rfl, Ch_rf⟩
      · rw [if_neg c2, if_neg c2]; exact ⟨M, rfl, Ch_rf⟩
  | k + 1, p, m, b, w, M, h, hR, hT, hT1 => by
    have hn := hW.2.1
    rw [sg11_apart_33, hR.1, hW.1]
    simp (disch := omega) only [nI_lt9]
    rw [if_pos (by omega)]
    obtain ⟨M1, a1, a2, a3⟩ := c_copyFrom (d + 4) 23 9 nb ng (by omega) S hW M hR
    rw [a1]
    simp only [Option.bind_some, Option.toList_some, Option.toList_none, List.cons_append, List.nil_append, bi_eq0, bi_eq1, bi_nem, if_true, if_false, ite_not, Classical.not_not, sg11_apart_56]
    obtain ⟨M2, b1, b2, b3⟩ := c_think d nb ng (p + 1) n (by omega) (by omega) S hW M1 a2 (by rw [a3 33 (by decide), a3 34 (by decide)]; exact hT)
    rw [b1]
    simp only [Option.bind_some, Option.toList_some, Option.toList_none, List.cons_append, List.nil_append, bi_eq0, bi_eq1, bi_nem, if_true, if_false, ite_not, Classical.not_not, sg11_apart_63]
    have hC2 : Ch [23, 24, 25, 26, 27, 28, 29, 35, 39] M M2 := Ch_tr (Ch_mo a3 (by decide)) (Ch_mo b3 (by decide))
    obtain ⟨M3, e1, e2⟩ := c_allSense d 23 nb (by omega) hn (goS S nb ng (p + 1) n) (goS_WS hW n).1 M2 b2 (by
      rw [hC2 37 (by decide), hC2 38 (by decide)]
      exact TR_S (by omega) hT1 (fun j hj => goS_hi hW (by omega) n))
    rw [e1]
    simp only [Option.bind_some, Option.toList_some, Option.toList_none, List.cons_append, List.nil_append, bi_eq0, bi_eq1, bi_nem, if_true, if_false, ite_not, Classical.not_not, sg11_apart_74]
    have hC3 : Ch [23, 24, 25, 26, 27, 28, 29, 35, 39] M M3 := Ch_tr hC2 (Ch_mo e2 (by decide))
    have hR3 : RS M3 9 S nb := RS_ch hR (by refine ⟨?_, ?_, ?_, ?_, ?_, ?_⟩ <;> exact hC3 _ (by decide))
    have hT3 : TR (M3 33) (M3 34) S 0 := by rw [hC3 33 (by decide), hC3 34 (by decide)]; exact hT
    have hT13 : TR (M3 37) (M3 38) S 1 := by rw [hC3 37 (by decide), hC3 38 (by decide)]; exact hT1
    show ∃ M', _ = oCi (apE x2 (if nI (apV S nb ng n p) ≤ m then apF (apV S nb ng n) (apP S) k (p + 1) m b else apF (apV S nb ng n) (apP S) k (p + 1) (nI (apV S nb ng n p)) (apP S p))) 2 M' ∧ _
    by_cases cc : nI (apV S nb ng n p) ≤ m
    · rw [if_pos cc, if_pos cc, nI_add]
      obtain ⟨M4, g1, g2⟩ := c_apart_l d nb ng n hg hnn x2 S hW k (p + 1) m b (.int (nI (apV S nb ng n p))) M3 (by omega) hR3 hT3 hT13
      exact ⟨M4, g1, Ch_tr hC3 g2⟩
    · rw [if_neg cc, if_neg cc, pk_sub (by omega), Nat.add_sub_cancel, nI_add]
      simp (disch := omega) only [nI_clamp, nI_in9, if_false]
      rw [show M3 14 p = S (56 + p) from hR3.2.2.2.1 p (by omega), show M3 14 (p + 1) = S (56 + (p + 1)) from hR3.2.2.2.1 (p + 1) (by omega)]
      obtain ⟨M4, g1, g2⟩ := c_apart_l d nb ng n hg hnn x2 S hW k (p + 1) (nI (apV S nb ng n p)) (apP S p) (.int (nI (apV S nb ng n p))) M3 (by omega) hR3 hT3 hT13
      exact ⟨M4, g1, Ch_tr hC3 g2⟩
theorem m_apart_l (d nb ng n : Nat) (hg : ng ≤ 9999) (hnn : n ≤ 60) (x2 : Int32) (S : Nat → Int32) (hW : WS S nb ng) (hK : txK S 0) (hK1 : txK S 1) : ∀ (k p : Nat) (m b : Int32) (w : Value) (M : am_M), p + k = nb - 1 → M 69 = S → AS M S → ∃ M', am_lim (am_call (d + 43)) (am_R i12_apart) (am_tx i12_apart) 41 [.ref 68, .int (nI n), .int x2, .int m, .int b, .int (nI p), w] [] M = oMi (apE x2 (apF (apV S nb ng n) (apP S) k p m b)) 2 M' ∧ M' 69 = S ∧ J6 [69, 73] M M'
  | 0, p, m, b, w, M, h, hM, hA => by
    have hn := hW.2.1
    rw [sg12_apart_41, hM, hW.1, nI_add]
    simp (disch := omega) only [nI_lt9]
    rw [if_neg (by omega)]
    show ∃ M', _ = oMi (if m < 0 then none else some (if x2 = 0 then b else m)) 2 M' ∧ _
    by_cases c : m < 0
    · rw [if_pos c, if_pos c, me2]
      simp only [Option.bind_some, Option.toList_some, Option.toList_none, List.cons_append, List.nil_append, bi_eq0, bi_eq1, bi_nem, if_true, if_false, ite_not, Classical.not_not, sg12_apart_139]
      exact ⟨M, rfl, hM, J6_rf⟩
    · rw [if_neg c, if_neg c]
      by_cases c2 : x2 = 0
      · rw [if_pos c2, if_pos c2]; exact ⟨M, rfl, hM, J6_rf⟩
      · rw [if_neg c2, if_neg c2]; exact ⟨M, rfl, hM, J6_rf⟩
  | k + 1, p, m, b, w, M, h, hM, hA => by
    have hn := hW.2.1
    rw [sg12_apart_41, hM, hW.1, nI_add]
    simp (disch := omega) only [nI_lt9]
    rw [if_pos (by omega), show nI p = pnM (p + 1) from (pnM_s p).symm]
    obtain ⟨M1, a1, a2, a3⟩ := m_go d nb ng (p + 1) n (by omega) (by omega) M (by rw [hM]; exact hW) (by rw [hM]; exact hK)
    rw [hM] at a2
    rw [a1, pnM_s]
    simp only [Option.bind_some, Option.toList_some, Option.toList_none, List.cons_append, List.nil_append, bi_eq0, bi_eq1, bi_nem, if_true, if_false, ite_not, Classical.not_not, sg12_apart_61]
    obtain ⟨M2, b1, b2⟩ := m_allSense d nb hn M1 (by rw [a2]; exact (goS_WS hW n).1) (by rw [a2]; exact txK_S hK1 (fun j hj => goS_hi hW (by omega) n))
    rw [a2] at b1
    rw [b1]
    simp only [Option.bind_some, Option.toList_some, Option.toList_none, List.cons_append, List.nil_append, bi_eq0, bi_eq1, bi_nem, if_true, if_false, ite_not, Classical.not_not, sg12_apart_66]
    have f2 : M2 69 = goS S nb ng (p + 1) n := (J68_69 b2).trans a2
    have hJ2 : J6 [69, 73] M M2 := J6_tr a3 (J6_J b2)
    obtain ⟨M3, e1, e2, e3⟩ := m_back (d + 42) (nI (alF (goS S nb ng (p + 1) n) nb)) S M2 (AS_J hA hJ2 (by decide)) (fun j hj => by rw [f2]; exact goS_hi hW (by omega) n)
    rw [e1]
    simp only [Option.bind_some, Option.toList_some, Option.toList_none, List.cons_append, List.nil_append, bi_eq0, bi_eq1, bi_nem, if_true, if_false, ite_not, Classical.not_not, sg12_apart_69]
    have hJ3 : J6 [69, 73] M M3 := J6_tr hJ2 (J6_mo e3 (by decide))
    have hA3 := AS_J hA hJ3 (by decide)
    show ∃ M', _ = oMi (apE x2 (if nI (apV S nb ng n p) ≤ m then apF (apV S nb ng n) (apP S) k (p + 1) m b else apF (apV S nb ng n) (apP S) k (p + 1) (nI (apV S nb ng n p)) (apP S p))) 2 M' ∧ _
    by_cases cc : nI (apV S nb ng n p) ≤ m
    · rw [if_pos cc, if_pos cc, if_pos cc, nI_add]
      obtain ⟨M4, g1, g2, g3⟩ := m_apart_l d nb ng n hg hnn x2 S hW hK hK1 k (p + 1) m b (.int (nI (apV S nb ng n p))) M3 (by omega) e2 hA3
      exact ⟨M4, g1, g2, J6_tr hJ3 g3⟩
    · rw [if_neg cc, if_neg cc, if_neg cc, nI_add, nI_add, nI_add]
      simp (disch := omega) only [nI_clamp, nI_in9, if_false]
      rw [e2, Nat.add_assoc]
      obtain ⟨M4, g1, g2, g3⟩ := m_apart_l d nb ng n hg hnn x2 S hW hK hK1 k (p + 1) (nI (apV S nb ng n p)) (apP S p) (.int (nI (apV S nb ng n p))) M3 (by omega) e2 hA3
      exact ⟨M4, g1, g2, J6_tr hJ3 g3⟩
theorem po_apart (d : Nat) (n w : Int32) (M : am_M) (hI : IV M M) : PO d i11_apart i12_apart [.int n, .int w] M := by
  obtain ⟨nb, ng, hW, hg, hR, hD⟩ := hI.1
  have hn := hW.2.1
  have h7 : M 9 7 = nI nb := hR.1.trans hW.1
  have h8 : M 9 8 = nI ng := hR.2.1.trans hW.2.2.1
  have cB : ∀ (d' : Nat) (x : Int32) (N : am_M), N 9 7 = M 9 7 → am_call (d' + 2) i11_isBook [.ref 0, .int x] N = some (some (.int (bi (0 ≤ x.toInt ∧ x.toInt < nb))), N) := fun d' x N h => c_isBook d' x N nb (h.trans h7) hn
  have cP : ∀ (d' : Nat) (x : Int32) (N : am_M), N 9 7 = M 9 7 → am_call (d' + 2) i11_isPlace [.ref 0, .int x] N = some (some (.int (bi (0 ≤ x.toInt ∧ x.toInt < nb))), N) := fun d' x N h => c_isPlace d' x N nb (h.trans h7) hn
  have cPB : ∀ (d' : Nat) (x y : Int32) (N : am_M), N 9 7 = M 9 7 → am_call (d' + 3) i11_isPageOfBook [.ref 0, .int x, .int y] N = some (some (.int (bi ((0 ≤ x.toInt ∧ x.toInt < nb) ∧ 0 ≤ y.toInt ∧ y.toInt < 6))), N) := fun d' x y N h => c_isPageOfBook d' x y N nb (h.trans h7) hn
  have mB : ∀ (d' : Nat) (x : Int32) (N : am_M), N 69 = M 69 → am_call (d' + 2) i12_isBook [.ref 68, .int x] N = some (some (.int (bi (0 ≤ x.toInt ∧ x.toInt < nb))), N) := fun d' x N h => m_isBook d' x N nb (by rw [h]; exact hW.1) hn
  have cM : ∀ (d' : Nat) (x : Int32) (N : am_M), am_call (d' + 1) i11_isWithin [.int x, .int (nI 0), .int (nI 60)] N = some (some (.int (bi (0 ≤ x.toInt ∧ x.toInt < 61))), N) := fun d' x N => (cW d' x 0 60 N (by omega) (by omega)).trans (bi_out (by omega))
  have mM : ∀ (d' : Nat) (x : Int32) (N : am_M), am_call (d' + 1) i12_in [.long x.toInt64, .long (lN 0), .long (lN 60)] N = some (some (.int (bi (0 ≤ x.toInt ∧ x.toInt < 61))), N) := fun d' x N => (mW d' x 0 60 N (by omega) (by omega)).trans (bi_out (by omega))
  have cM2 : ∀ (d' : Nat) (x : Int32) (N : am_M), am_call (d' + 1) i11_isWithin [.int x, .int (nI 0), .int (nI 1)] N = some (some (.int (bi (0 ≤ x.toInt ∧ x.toInt < 2))), N) := fun d' x N => (cW d' x 0 1 N (by omega) (by omega)).trans (bi_out (by omega))
  have mM2 : ∀ (d' : Nat) (x : Int32) (N : am_M), am_call (d' + 1) i12_in [.long x.toInt64, .long (lN 0), .long (lN 1)] N = some (some (.int (bi (0 ≤ x.toInt ∧ x.toInt < 2))), N) := fun d' x N => (mW d' x 0 1 N (by omega) (by omega)).trans (bi_out (by omega))
  by_cases hn0 : 0 ≤ n.toInt ∧ n.toInt < 61
  · by_cases hw : 0 ≤ w.toInt ∧ w.toInt < 2
    · obtain ⟨n', hn', rfl⟩ := i32_of (n := 61) hn0.1 hn0.2 (by omega)
      obtain ⟨M2, b1, b2⟩ := c_apart_l (d + 54) nb ng n' hg (by omega) w (M 69) hW (nb - 1) 0 (-1) (nI 0) .null M (by omega) hR hD.2.2.2.2.2.2.2.1 hD.2.2.2.2.2.2.2.2
      refine PO_oi (e := 2) (M1 := M2) (apE w (apF (apV (M 69) nb ng n') (apP (M 69)) (nb - 1) 0 (-1) (nI 0))) hI ?_ (Ch_mo b2 (by decide)) (fun N hN => ?_)
      · rw [ec11_apart, cM]
        simp only [Option.bind_some, Option.toList_some, Option.toList_none, List.cons_append, List.nil_append, bi_eq0, bi_eq1, bi_nem, if_true, if_false, ite_not, Classical.not_not, sg11_apart_7]
        rw [if_pos (hn0), cM2]
        simp only [Option.bind_some, Option.toList_some, Option.toList_none, List.cons_append, List.nil_append, bi_eq0, bi_eq1, bi_nem, if_true, if_false, ite_not, Classical.not_not, sg11_apart_16]
        rw [if_pos (hw), am_k_m1]
        exact b1
      · have f69 : N 69 = M 69 := hN 69 (by decide)
        obtain ⟨N1, q1, q2, q3⟩ := m_lays (d + 58) N
        rw [f69] at q2
        have g69 : N1 69 = M 69 := (q3.1 69 (by decide) (by decide)).trans f69
        obtain ⟨N2, s1, s2, s3⟩ := m_apart_l (d + 16) nb ng n' hg (by omega) w (M 69) hW (TR_K hD.2.2.2.2.2.2.2.1) (TR_K hD.2.2.2.2.2.2.2.2) (nb - 1) 0 (-1) (nI 0) .null N1 (by omega) g69 q2
        refine ⟨N2, ?_, J6_69 (J6_tr (J6_mo q3 (by decide)) (J6_mo s3 (by decide))) (s2.trans f69.symm)⟩
        rw [ec12_apart, mM]
        simp only [Option.bind_some, Option.toList_some, Option.toList_none, List.cons_append, List.nil_append, bi_eq0, bi_eq1, bi_nem, if_true, if_false, ite_not, Classical.not_not, sg12_apart_9]
        rw [if_pos (hn0), mM2]
        simp only [Option.bind_some, Option.toList_some, Option.toList_none, List.cons_append, List.nil_append, bi_eq0, bi_eq1, bi_nem, if_true, if_false, ite_not, Classical.not_not, sg12_apart_19]
        rw [if_pos (hw), q1]
        simp only [Option.bind_some, Option.toList_some, Option.toList_none, List.cons_append, List.nil_append, bi_eq0, bi_eq1, bi_nem, if_true, if_false, ite_not, Classical.not_not, sg12_apart_33]
        rw [am_k_m1]
        exact s1
    · refine PO_e (k := 1) hI (M1 := M) ?_ Ch_rf ⟨eC M 1, ?_, J6_rf⟩
      · rw [ec11_apart, cM]
        simp only [Option.bind_some, Option.toList_some, Option.toList_none, List.cons_append, List.nil_append, bi_eq0, bi_eq1, bi_nem, if_true, if_false, ite_not, Classical.not_not, sg11_apart_7]
        rw [if_pos (hn0), cM2]
        simp only [Option.bind_some, Option.toList_some, Option.toList_none, List.cons_append, List.nil_append, bi_eq0, bi_eq1, bi_nem, if_true, if_false, ite_not, Classical.not_not, sg11_apart_16]
        rw [if_neg (hw), ce _ 1 _ (by omega)]
        simp only [Option.bind_some, Option.toList_some, Option.toList_none, List.cons_append, List.nil_append, bi_eq0, bi_eq1, bi_nem, if_true, if_false, ite_not, Classical.not_not, sg11_apart_24]
      · rw [ec12_apart, mM]
        simp only [Option.bind_some, Option.toList_some, Option.toList_none, List.cons_append, List.nil_append, bi_eq0, bi_eq1, bi_nem, if_true, if_false, ite_not, Classical.not_not, sg12_apart_9]
        rw [if_pos (hn0), mM2]
        simp only [Option.bind_some, Option.toList_some, Option.toList_none, List.cons_append, List.nil_append, bi_eq0, bi_eq1, bi_nem, if_true, if_false, ite_not, Classical.not_not, sg12_apart_19]
        rw [if_neg (hw), me1]
        simp only [Option.bind_some, Option.toList_some, Option.toList_none, List.cons_append, List.nil_append, bi_eq0, bi_eq1, bi_nem, if_true, if_false, ite_not, Classical.not_not, sg12_apart_28]
  · refine PO_e (k := 1) hI (M1 := M) ?_ Ch_rf ⟨eC M 1, ?_, J6_rf⟩
    · rw [ec11_apart, cM]
      simp only [Option.bind_some, Option.toList_some, Option.toList_none, List.cons_append, List.nil_append, bi_eq0, bi_eq1, bi_nem, if_true, if_false, ite_not, Classical.not_not, sg11_apart_7]
      rw [if_neg (hn0), ce _ 1 _ (by omega)]
      simp only [Option.bind_some, Option.toList_some, Option.toList_none, List.cons_append, List.nil_append, bi_eq0, bi_eq1, bi_nem, if_true, if_false, ite_not, Classical.not_not, sg11_apart_24]
    · rw [ec12_apart, mM]
      simp only [Option.bind_some, Option.toList_some, Option.toList_none, List.cons_append, List.nil_append, bi_eq0, bi_eq1, bi_nem, if_true, if_false, ite_not, Classical.not_not, sg12_apart_9]
      rw [if_neg (hn0), me1]
      simp only [Option.bind_some, Option.toList_some, Option.toList_none, List.cons_append, List.nil_append, bi_eq0, bi_eq1, bi_nem, if_true, if_false, ite_not, Classical.not_not, sg12_apart_28]
