/-! the public calls: reads, judge -/
theorem sgu_reads49 (C : am_H) (h : Nat) (hh : h < 4) (x2 x3 : Int32) (w4 : Value) (M : am_M) : am_lim C (am_R i11_reads) (am_tx i11_reads) 49 [.ref 0, .int (nI h), .int x2, .int x3, w4] [] M = if x3 < x2 then (if x3 < 0 ∨ 40 ≤ x3.toNatClampNeg then none else (C i11_isSaid [.int (M (63 + h) x3.toNatClampNeg)] M).bind (fun q => am_lim C (am_R i11_reads) (am_tx i11_reads) 69 [.ref 0, .int (nI h), .int x2, .int x3, .int (M (63 + h) x3.toNatClampNeg)] (q.1.toList ++ []) q.2)) else some (some (.int x2), M) := by
  have h4 : h = 0 ∨ h = 1 ∨ h = 2 ∨ h = 3 := by omega
  rcases h4 with rfl | rfl | rfl | rfl
  · exact sg11_reads_h0_49 C x2 x3 w4 M
  · exact sg11_reads_h1_49 C x2 x3 w4 M
  · exact sg11_reads_h2_49 C x2 x3 w4 M
  · exact sg11_reads_h3_49 C x2 x3 w4 M
theorem sgu_reads69 (C : am_H) (h : Nat) (hh : h < 4) (x2 x3 x4 r : Int32) (M : am_M) : am_lim C (am_R i11_reads) (am_tx i11_reads) 69 [.ref 0, .int (nI h), .int x2, .int x3, .int x4] [.int r] M = if r = 0 then some (some (.int x3), M) else if x3 < 0 ∨ 36 ≤ x3.toNatClampNeg then none else am_lim C (am_R i11_reads) (am_tx i11_reads) 49 [.ref 0, .int (nI h), .int x2, .int (x3 + (nI 1)), .int x4] [] (am_up M 13 x3.toNatClampNeg x4) := by
  have h4 : h = 0 ∨ h = 1 ∨ h = 2 ∨ h = 3 := by omega
  rcases h4 with rfl | rfl | rfl | rfl
  · exact sg11_reads_h0_69 C x2 x3 x4 r M
  · exact sg11_reads_h1_69 C x2 x3 x4 r M
  · exact sg11_reads_h2_69 C x2 x3 x4 r M
  · exact sg11_reads_h3_69 C x2 x3 x4 r M
theorem sgu_judge50 (C : am_H) (h : Nat) (hh : h < 4) (x2 x3 x4 : Int32) (M : am_M) : am_lim C (am_R i11_judge) (am_tx i11_judge) 50 [.ref 0, .int (nI h), .int x2, .int x3, .int x4] [] M = if x4 < x3 then (if x4 < 0 ∨ 40 ≤ x4.toNatClampNeg then none else (C i8_said [.ref 9, .int x2, .int x4] M).bind (fun q => am_lim C (am_R i11_judge) (am_tx i11_judge) 75 [.ref 0, .int (nI h), .int x2, .int x3, .int x4] (q.1.toList ++ [.int (M (63 + h) x4.toNatClampNeg)]) q.2)) else if M 61 h = nI 6 then some (some (.int (am_k (-1))), M) else some (some (.int x3), M) := by
  have h4 : h = 0 ∨ h = 1 ∨ h = 2 ∨ h = 3 := by omega
  rcases h4 with rfl | rfl | rfl | rfl
  · exact sg11_judge_h0_50 C x2 x3 x4 M
  · exact sg11_judge_h1_50 C x2 x3 x4 M
  · exact sg11_judge_h2_50 C x2 x3 x4 M
  · exact sg11_judge_h3_50 C x2 x3 x4 M
theorem sgu_judge75 (C : am_H) (h : Nat) (hh : h < 4) (x2 x3 x4 r s1 : Int32) (M : am_M) : am_lim C (am_R i11_judge) (am_tx i11_judge) 75 [.ref 0, .int (nI h), .int x2, .int x3, .int x4] [.int r, .int s1] M = if s1 = r then am_lim C (am_R i11_judge) (am_tx i11_judge) 50 [.ref 0, .int (nI h), .int x2, .int x3, .int (x4 + (nI 1))] [] M else some (some (.int x4), M) := by
  have h4 : h = 0 ∨ h = 1 ∨ h = 2 ∨ h = 3 := by omega
  rcases h4 with rfl | rfl | rfl | rfl
  · exact sg11_judge_h0_75 C x2 x3 x4 r s1 M
  · exact sg11_judge_h1_75 C x2 x3 x4 r s1 M
  · exact sg11_judge_h2_75 C x2 x3 x4 r s1 M
  · exact sg11_judge_h3_75 C x2 x3 x4 r s1 M
def rpS (S v : Nat → Int32) : Nat → Nat → Int32
  | 0 => S
  | k + 1 => upd (rpS S v k) (2 + 9 * (k / 6) + (3 + k % 6)) (v k)
theorem rpS_congr {S v w : Nat → Int32} : ∀ k, (∀ j, j < k → v j = w j) → rpS S v k = rpS S w k
  | 0, _ => rfl
  | k + 1, h => by
    show upd (rpS S v k) _ (v k) = upd (rpS S w k) _ (w k)
    rw [rpS_congr k (fun j hj => h j (by omega)), h k (by omega)]
theorem rpS_hi {S v : Nat → Int32} {j : Nat} (hj : 56 ≤ j) : ∀ k, k ≤ 36 → rpS S v k j = S j
  | 0, _ => rfl
  | k + 1, h => by
    show upd (rpS S v k) _ (v k) j = S j
    rw [upd_ne (by omega)]
    exact rpS_hi hj k (by omega)
theorem sd_n {x : Int32} (h : sd x) : ∃ n, n ≤ 99 ∧ x = nI n := in99 h.1 (by have := h.2; omega)
/-- how many are said in a row, of the first mo -/
def cnt (v : Nat → Int32) (mo k : Nat) : Prop := k ≤ mo ∧ (∀ j, j < k → sd (v j)) ∧ (k = mo ∨ ¬ sd (v k))
theorem cnt_u {v w : Nat → Int32} {mo k l : Nat} (h : cnt v mo k) (h2 : cnt w mo l) (hv : ∀ j, j < mo → (sd (v j) ↔ sd (w j))) : k = l := by
  obtain ⟨a1, a2, a3⟩ := h
  obtain ⟨b1, b2, b3⟩ := h2
  rcases Nat.lt_trichotomy k l with c | c | c
  · exact absurd ((hv k (by omega)).mpr (b2 k c)) (a3.resolve_left (by omega))
  · exact c
  · exact absurd ((hv l (by omega)).mp (a2 l c)) (b3.resolve_left (by omega))
theorem c_reads_l (d h mo nb ng : Nat) (hh : h < 4) (hmo : mo ≤ 40) (hmn : mo ≤ nb * 6) (v : Nat → Int32) (S : Nat → Int32) : ∀ (k i : Nat) (w4 : Value) (M : am_M), i + k = mo → M (63 + h) = v → (∀ j, j < i → sd (v j)) → RS M 9 (rpS S v i) nb → WS (rpS S v i) nb ng → ∃ M' e, am_lim (am_call (d + 2)) (am_R i11_reads) (am_tx i11_reads) 49 [.ref 0, .int (nI h), .int (nI mo), .int (nI i), w4] [] M = some (some (.int (nI e)), M') ∧ cnt v mo e ∧ RS M' 9 (rpS S v e) nb ∧ WS (rpS S v e) nb ng ∧ Ch [13] M M'
  | 0, i, w4, M, hk, hv, hj, hR, hW => by
    have : i = mo := by omega
    subst this
    rw [sgu_reads49 _ h hh]
    simp (disch := omega) only [nI_lt9]
    rw [if_neg (by omega)]
    exact ⟨M, i, rfl, ⟨Nat.le_refl _, hj, Or.inl rfl⟩, hR, hW, Ch_rf⟩
  | k + 1, i, w4, M, hk, hv, hj, hR, hW => by
    have hn := hW.2.1
    rw [sgu_reads49 _ h hh]
    simp (disch := omega) only [false_or, nle9, nI_dec9, nI_add, pk_mul, pk_sub, nI_clamp, nI_in9, nI_pos9, nI_lt9, nI_le9, nI_eq9, nI_eq09, nI_le09, am_k_m1, if_true, if_false, ite_not, Classical.not_not]
    rw [if_pos (by omega), hv, c_isSaid]
    simp only [Option.bind_some, Option.toList_some, List.cons_append, List.nil_append]
    rw [sgu_reads69 _ h hh]
    by_cases c : sd (v i)
    · rw [if_neg (by rw [bi_eq0]; exact fun q => q c)]
      simp (disch := omega) only [false_or, nle9, nI_dec9, nI_add, pk_mul, pk_sub, nI_clamp, nI_in9, nI_pos9, nI_lt9, nI_le9, nI_eq9, nI_eq09, nI_le09, am_k_m1, if_true, if_false, ite_not, Classical.not_not]
      obtain ⟨n, hn9, hx⟩ := sd_n c
      have hb6 : i / 6 < nb := by omega
      have hp6 : i % 6 < 6 := Nat.mod_lt _ (by omega)
      obtain ⟨M2, e, b1, b2, b3, b4, b5⟩ := c_reads_l d h mo nb ng hh hmo hmn v S k (i + 1) (.int (v i)) (am_up M 13 i (v i)) (by omega) ((au_b (by omega)).trans hv) (fun j hj2 => by
        by_cases q : j = i
        · subst q; exact c
        · exact hj j (by omega)) (RS_pg hR hn hb6 hp6 (by refine ⟨?_, ?_, ?_, ?_, ?_⟩ <;> exact au_b (by decide)) (by rw [au_a, show i / 6 * 6 + i % 6 = i by omega])) (WS_upd hW hb6 (by omega) (fun q => by omega) (fun q => by omega) (fun q => by omega) (fun _ => ⟨n, hn9, hx⟩))
      exact ⟨M2, e, b1, b2, b3, b4, Ch_tr (Ch_up (by decide)) b5⟩
    · rw [if_pos (by rw [bi_eq0]; exact c)]
      exact ⟨M, i, rfl, ⟨by omega, hj, Or.inr c⟩, hR, hW, Ch_rf⟩
theorem m_reads_l (d h ln nb mo : Nat) (hh : h < 4) (hl : ln ≤ 40) (hn : nb ≤ 6) (hmo : mo = if nb * 6 < ln then nb * 6 else ln) (x2 : Int32) (v S : Nat → Int32) (hS : S 1 = nI nb) : ∀ (k i : Nat) (M : am_M), i + k = mo → M 69 = rpS S v i → M 79 h = nI ln → (∀ j, j < ln → M 80 (40 * h + j) = v j) → (∀ j, j < i → sd (v j)) → ∃ M' e, am_lim (am_call (d + 2)) (am_R i12_reads) (am_tx i12_reads) 18 [.ref 68, .int (nI h), .int x2, .int (nI i)] [] M = some (some (.int (nI e)), M') ∧ cnt v mo e ∧ M' 69 = rpS S v e ∧ J6 [69] M M'
  | 0, i, M, hk, hM, h79, h80, hj => by
    have hi : i = mo := by omega
    have h36 : mo ≤ 36 := by rw [hmo]; split <;> omega
    have e1 : M 69 1 = nI nb := by
      rw [hM]
      have : ∀ k, rpS S v k 1 = S 1 := fun k => by
        induction k with
        | zero => rfl
        | succ k ih => show upd (rpS S v k) _ (v k) 1 = S 1; rw [upd_ne (by omega)]; exact ih
      rw [this]; exact hS
    rw [sg12_reads_18]
    simp (disch := omega) only [nI_clamp, nI_in9, if_false]
    rw [h79, e1, pk_mul]
    simp (disch := omega) only [nI_lt9]
    refine ⟨M, i, ?_, ⟨by omega, hj, Or.inl hi⟩, hM, J6_rf⟩
    by_cases c : i < ln
    · rw [if_pos c, if_neg (by
        have h1 := hmo
        by_cases z : nb * 6 < ln
        · rw [if_pos z] at h1; omega
        · rw [if_neg z] at h1; omega)]
    · rw [if_neg c]
  | k + 1, i, M, hk, hM, h79, h80, hj => by
    have hmo1 : mo ≤ ln ∧ mo ≤ nb * 6 := by
      rw [hmo]
      split <;> omega
    have e1 : M 69 1 = nI nb := by
      rw [hM]
      have : ∀ k, rpS S v k 1 = S 1 := fun k => by
        induction k with
        | zero => rfl
        | succ k ih => show upd (rpS S v k) _ (v k) 1 = S 1; rw [upd_ne (by omega)]; exact ih
      rw [this]; exact hS
    rw [sg12_reads_18]
    simp (disch := omega) only [nI_clamp, nI_in9, if_false]
    rw [h79, e1, pk_mul]
    simp (disch := omega) only [nI_lt9]
    rw [if_pos (by omega), if_pos (by omega)]
    simp (disch := omega) only [false_or, nle9, nI_dec9, nI_add, pk_mul, pk_sub, nI_clamp, nI_in9, nI_pos9, nI_lt9, nI_le9, nI_eq9, nI_eq09, nI_le09, am_k_m1, if_true, if_false, ite_not, Classical.not_not]
    rw [h80 i (by omega), m_isSaid]
    simp only [Option.bind_some, Option.toList_some, List.cons_append, List.nil_append]
    rw [sg12_reads_55]
    by_cases c : sd (v i)
    · rw [if_neg (by rw [bi_eq0]; exact fun q => q c), pk_rem (by omega) (by omega) (by omega), pk_div (by omega) (by omega) (by omega), nI_add, m_spot]
      simp only [Option.bind_some, Option.toList_some, Option.toList_none, List.cons_append, List.nil_append, bi_eq0, bi_eq1, bi_nem, if_true, if_false, ite_not, Classical.not_not, sg12_reads_75]
      have hp6 : i % 6 < 6 := Nat.mod_lt _ (by omega)
      have hb6 : i / 6 < 6 := by omega
      simp (disch := omega) only [false_or, nle9, nI_dec9, nI_add, pk_mul, pk_sub, nI_clamp, nI_in9, nI_pos9, nI_lt9, nI_le9, nI_eq9, nI_eq09, nI_le09, am_k_m1, if_true, if_false, ite_not, Classical.not_not]
      rw [h80 i (by omega)]
      obtain ⟨M2, e, b1, b2, b3, b4⟩ := m_reads_l d h ln nb mo hh hl hn hmo x2 v S hS k (i + 1) (am_up M 69 (2 + 9 * (i / 6) + (3 + i % 6)) (v i)) (by omega) (by rw [au_69, hM]; rfl) ((congrFun (au_b (by decide)) h).trans h79) (fun j hj2 => by rw [au_b (by decide)]; exact h80 j hj2) (fun j hj2 => by
        by_cases q : j = i
        · subst q; exact c
        · exact hj j (by omega))
      exact ⟨M2, e, b1, b2, b3, J6_tr (J6_up (by decide) (by decide)) b4⟩
    · rw [if_pos (by rw [bi_eq0]; exact c)]
      exact ⟨M, i, rfl, ⟨by omega, hj, Or.inr c⟩, hM, J6_rf⟩
theorem SV_sd {x y : Int32} (h : SV x y) : sd x ↔ sd y := by
  rcases h with h | h
  · rw [h]
  · exact ⟨fun q => absurd q h.1, fun q => absurd q h.2⟩
theorem SV_eq {x y : Int32} (h : SV x y) (hs : sd x) : x = y := by
  rcases h with h | h
  · exact h
  · exact absurd hs h.1
theorem po_reads (d : Nat) (h : Int32) (M : am_M) (hI : IV M M) : PO d i11_reads i12_reads [.int h] M := by
  obtain ⟨nb, ng, hW, hg, hR, hD⟩ := hI.1
  have hn := hW.2.1
  have h7 : M 9 7 = nI nb := hR.1.trans hW.1
  have h8 : M 9 8 = nI ng := hR.2.1.trans hW.2.2.1
  have cB : ∀ (d' : Nat) (x : Int32) (N : am_M), N 9 7 = M 9 7 → am_call (d' + 2) i11_isBook [.ref 0, .int x] N = some (some (.int (bi (0 ≤ x.toInt ∧ x.toInt < nb))), N) := fun d' x N h => c_isBook d' x N nb (h.trans h7) hn
  have cP : ∀ (d' : Nat) (x : Int32) (N : am_M), N 9 7 = M 9 7 → am_call (d' + 2) i11_isPlace [.ref 0, .int x] N = some (some (.int (bi (0 ≤ x.toInt ∧ x.toInt < nb))), N) := fun d' x N h => c_isPlace d' x N nb (h.trans h7) hn
  have cPB : ∀ (d' : Nat) (x y : Int32) (N : am_M), N 9 7 = M 9 7 → am_call (d' + 3) i11_isPageOfBook [.ref 0, .int x, .int y] N = some (some (.int (bi ((0 ≤ x.toInt ∧ x.toInt < nb) ∧ 0 ≤ y.toInt ∧ y.toInt < 6))), N) := fun d' x y N h => c_isPageOfBook d' x y N nb (h.trans h7) hn
  have mB : ∀ (d' : Nat) (x : Int32) (N : am_M), N 69 = M 69 → am_call (d' + 2) i12_isBook [.ref 68, .int x] N = some (some (.int (bi (0 ≤ x.toInt ∧ x.toInt < nb))), N) := fun d' x N h => m_isBook d' x N nb (by rw [h]; exact hW.1) hn
  by_cases hs : 0 ≤ h.toInt ∧ h.toInt < 4
  · obtain ⟨h', hh', rfl⟩ := i32_of (n := 4) hs.1 hs.2 (by omega)
    obtain ⟨e1, e2, ln, hl, e3, e4⟩ := hI.2.2.2.2.2 h' hh'
    by_cases hm : M 60 h' = 0
    · refine PO_e (k := 2) hI (M1 := M) ?_ Ch_rf ⟨eC M 2, ?_, J6_rf⟩
      · rw [ec11_reads, c_isSheet]
        simp only [Option.bind_some, Option.toList_some, Option.toList_none, List.cons_append, List.nil_append, bi_eq0, bi_eq1, bi_nem, if_true, if_false, ite_not, Classical.not_not, sg11_reads_4]
        rw [if_pos (hs), c_isMissing _ h' _ hh']
        simp only [Option.bind_some, Option.toList_some, Option.toList_none, List.cons_append, List.nil_append, bi_eq0, bi_eq1, bi_nem, if_true, if_false, ite_not, Classical.not_not, sg11_reads_18]
        rw [if_pos (hm), ce _ 2 _ (by omega)]
        simp only [Option.bind_some, Option.toList_some, Option.toList_none, List.cons_append, List.nil_append, bi_eq0, bi_eq1, bi_nem, if_true, if_false, ite_not, Classical.not_not, sg11_reads_26]
      · rw [ec12_reads, m_wrong _ h' hh', eC_b (by decide), ← e1, if_pos (hm)]
        simp only [Option.bind_some, Option.toList_some, Option.toList_none, List.cons_append, List.nil_append, bi_eq0, bi_eq1, bi_nem, if_true, if_false, ite_not, Classical.not_not, sg12_reads_5]
        rw [if_neg (kE2), me2]
        simp only [Option.bind_some, Option.toList_some, Option.toList_none, List.cons_append, List.nil_append, bi_eq0, bi_eq1, bi_nem, if_true, if_false, ite_not, Classical.not_not, sg12_reads_15]
    · generalize hmo : (if nb * 6 < ln then nb * 6 else ln) = mo
      have hmo1 : mo ≤ ln ∧ mo ≤ nb * 6 := by
        rw [← hmo]
        split <;> omega
      have hmx : (if nb * 6 < ln then nI (nb * 6) else nI ln) = nI mo := by
        rw [← hmo]
        split <;> rfl
      obtain ⟨M1, e, a1, a2, a3, a4, a5⟩ := c_reads_l (d + 57) h' mo nb ng hh' (by omega) hmo1.2 (M (63 + h')) (M 69) mo 0 .null M (by omega) rfl (fun j hj => by omega) hR hW
      have f69 : M1 69 = M 69 := a5 69 (by decide)
      obtain ⟨M2, l, b1, b2, b3, b4⟩ := m_reads_l (d + 57) h' ln nb mo hh' hl hn hmo.symm (nI 0) (fun j => M 80 (40 * h' + j)) (M 69) hW.1 mo 0 M1 (by omega) f69 (by rw [a5 79 (by decide), ← e2]; exact e3) (fun j hj => by rw [a5 80 (by decide)]) (fun j hj => by omega)
      have hle : e = l := cnt_u a2 b2 (fun j hj => SV_sd (e4 j (by omega)))
      subst hle
      have hrp : rpS (M 69) (M (63 + h')) e = rpS (M 69) (fun j => M 80 (40 * h' + j)) e := rpS_congr e (fun j hj => SV_eq (e4 j (by have := a2.1; omega)) (a2.2.1 j hj))
      have he36 : e ≤ 36 := by have := a2.1; omega
      have hJ : J6 [13, 69] M M2 := J6_tr (Ch_J6 (Ch_mo a5 (by decide)) (by decide)) (J6_mo b4 (by decide))
      refine ⟨nI e, M1, M2, ?_, ?_, IV_S hI hJ (by decide) ⟨nb, ng, ?_, hg, ?_, ?_⟩⟩
      · rw [ec11_reads, c_isSheet]
        simp only [Option.bind_some, Option.toList_some, Option.toList_none, List.cons_append, List.nil_append, bi_eq0, bi_eq1, bi_nem, if_true, if_false, ite_not, Classical.not_not, sg11_reads_4]
        rw [if_pos (hs), c_isMissing _ h' _ hh']
        simp only [Option.bind_some, Option.toList_some, Option.toList_none, List.cons_append, List.nil_append, bi_eq0, bi_eq1, bi_nem, if_true, if_false, ite_not, Classical.not_not, sg11_reads_18]
        rw [if_neg (hm)]
        simp (disch := omega) only [false_or, nle9, nI_dec9, nI_add, pk_mul, pk_sub, nI_clamp, nI_in9, nI_pos9, nI_lt9, nI_le9, nI_eq9, nI_eq09, nI_le09, am_k_m1, if_true, if_false, ite_not, Classical.not_not]
        rw [h7, e3, pk_mul]
        simp (disch := omega) only [nI_lt9]
        rw [hmx]
        exact a1
      · rw [ec12_reads, m_wrong _ h' hh', a5 78 (by decide), ← e1, if_neg (hm)]
        simp only [Option.bind_some, Option.toList_some, Option.toList_none, List.cons_append, List.nil_append, bi_eq0, bi_eq1, bi_nem, if_true, if_false, ite_not, Classical.not_not, sg12_reads_5]
        rw [if_pos (nI_0)]
        exact b1
      · rw [b3, ← hrp]; exact a4
      · rw [b3, ← hrp]; exact RS_ch a3 (by refine ⟨?_, ?_, ?_, ?_, ?_, ?_⟩ <;> exact J6_c b4 (by decide) (by decide))
      · rw [b3, ← hrp]; exact RD_S hD (fun j hj => rpS_hi (by omega) e he36) (fun a ha => J6_c hJ (by revert a; decide) (by revert a; decide))
  · refine PO_e (k := 1) hI (M1 := M) ?_ Ch_rf ⟨eC M 1, ?_, J6_rf⟩
    · rw [ec11_reads, c_isSheet]
      simp only [Option.bind_some, Option.toList_some, Option.toList_none, List.cons_append, List.nil_append, bi_eq0, bi_eq1, bi_nem, if_true, if_false, ite_not, Classical.not_not, sg11_reads_4]
      rw [if_neg (hs), ce _ 1 _ (by omega)]
      simp only [Option.bind_some, Option.toList_some, Option.toList_none, List.cons_append, List.nil_append, bi_eq0, bi_eq1, bi_nem, if_true, if_false, ite_not, Classical.not_not, sg11_reads_12]
    · rw [ec12_reads, m_wrong_n _ _ hs]
      simp only [Option.bind_some, Option.toList_some, Option.toList_none, List.cons_append, List.nil_append, bi_eq0, bi_eq1, bi_nem, if_true, if_false, ite_not, Classical.not_not, sg12_reads_5]
      rw [if_neg (kE1), me1]
      simp only [Option.bind_some, Option.toList_some, Option.toList_none, List.cons_append, List.nil_append, bi_eq0, bi_eq1, bi_nem, if_true, if_false, ite_not, Classical.not_not, sg12_reads_15]
theorem fst1_congr {P Q : Nat → Bool} : ∀ (k i : Nat), (∀ j, i ≤ j → j < i + k → P j = Q j) → fst1 P i k = fst1 Q i k
  | 0, i, _ => rfl
  | k + 1, i, h => by
    unfold fst1
    rw [h i (by omega) (by omega), fst1_congr k (i + 1) (fun j h1 h2 => h j (by omega) (by omega))]
def jdR (ln bo : Nat) (o : Option Nat) : Int32 := match o with
  | some j => nI j
  | none => if ln = 6 then am_k (-1) else nI bo
theorem c_judge_l (d h b nb bo ln : Nat) (hh : h < 4) (hb : b < nb) (hn : nb ≤ 6) (hbo : bo ≤ 6) (hl : ln ≤ 40) (S : Nat → Int32) (M : am_M) (hR : RS M 9 S nb) (h61 : M 61 h = nI ln) : ∀ (k i : Nat), i + k = bo → am_lim (am_call (d + 1)) (am_R i11_judge) (am_tx i11_judge) 50 [.ref 0, .int (nI h), .int (nI b), .int (nI bo), .int (nI i)] [] M = some (some (.int (jdR ln bo (fst1 (fun j => !(decide (M (63 + h) j = S (2 + 9 * b + (3 + j))))) i k))), M)
  | 0, i, hk => by
    have : i = bo := by omega
    subst this
    rw [sgu_judge50 _ h hh, h61]
    simp (disch := omega) only [nI_lt9, nI_eq9]
    rw [if_neg (by omega)]
    show _ = some (some (Value.int (if ln = 6 then am_k (-1) else nI i)), M)
    split <;> rfl
  | k + 1, i, hk => by
    rw [sgu_judge50 _ h hh]
    simp (disch := omega) only [false_or, nle9, nI_dec9, nI_add, pk_mul, pk_sub, nI_clamp, nI_in9, nI_pos9, nI_lt9, nI_le9, nI_eq9, nI_eq09, nI_le09, am_k_m1, if_true, if_false, ite_not, Classical.not_not]
    rw [if_pos (by omega), c_said _ 9 (by omega) b i M (by omega)]
    simp only [Option.bind_some, Option.toList_some, List.cons_append, List.nil_append]
    rw [sgu_judge75 _ h hh, (hR.2.2.1 b hb).2.2.2 i (by omega)]
    by_cases c : M (63 + h) i = S (2 + 9 * b + (3 + i))
    · rw [if_pos c, fst1_f (by rw [decide_eq_true c]; decide), nI_add]
      exact c_judge_l d h b nb bo ln hh hb hn hbo hl S M hR h61 k (i + 1) (by omega)
    · rw [if_neg c, fst1_t (by rw [decide_eq_false c]; rfl)]
      rfl
theorem m_judge_l (d h b nb bo ln : Nat) (hh : h < 4) (hb : b < nb) (hn : nb ≤ 6) (hbo : bo = if 6 < ln then 6 else ln) (hl : ln ≤ 40) (M : am_M) (h79 : M 79 h = nI ln) : ∀ (k i : Nat), i + k = bo → am_lim (am_call (d + 2)) (am_R i12_judge) (am_tx i12_judge) 40 [.ref 68, .int (nI h), .int (nI b), .int (nI i)] [] M = some (some (.int (jdR ln bo (fst1 (fun j => !(decide (M 80 (40 * h + j) = M 69 (2 + 9 * b + (3 + j))))) i k))), M)
  | 0, i, hk => by
    have hi : i = bo := by omega
    rw [sg12_judge_40]
    simp (disch := omega) only [nI_clamp, nI_in9, if_false]
    rw [h79]
    show _ = some (some (Value.int (if ln = 6 then am_k (-1) else nI bo)), M)
    have hb6 : bo ≤ 6 := by rw [hbo]; split <;> omega
    simp (disch := omega) only [nI_lt9, nI_eq9]
    rw [← hi]
    by_cases c1 : i < ln
    · rw [if_pos c1]
      have : i = 6 := by
        rw [hi, hbo] at c1 ⊢
        split at c1
        · rename_i q; rw [if_pos q]
        · omega
      rw [if_neg (by omega), if_pos this, if_neg (by omega), if_neg (by omega)]
    · rw [if_neg c1]
      have hln : ln = i := by
        rw [hi, hbo] at c1 ⊢
        split at c1
        · omega
        · rename_i q; rw [if_neg q]
      by_cases c2 : i = 6
      · rw [if_pos c2, if_pos (by omega), if_pos (by omega)]
      · rw [if_neg c2, if_neg (by omega)]
  | k + 1, i, hk => by
    have hb6 : bo ≤ 6 ∧ bo ≤ ln := by
      rw [hbo]
      split <;> omega
    rw [sg12_judge_40]
    simp (disch := omega) only [nI_clamp, nI_in9, if_false]
    rw [h79]
    simp (disch := omega) only [nI_lt9]
    rw [if_pos (by omega), if_pos (by omega)]
    simp (disch := omega) only [pk_mul, nI_add, nI_clamp, nI_in9, if_false]
    rw [m_pageAt _ b i M (by omega)]
    simp only [Option.bind_some, Option.toList_some, List.cons_append, List.nil_append]
    rw [sg12_judge_73]
    by_cases c : M 80 (40 * h + i) = M 69 (2 + 9 * b + (3 + i))
    · rw [if_pos c, fst1_f (by rw [decide_eq_true c]; decide), nI_add]
      exact m_judge_l d h b nb bo ln hh hb hn hbo hl M h79 k (i + 1) (by omega)
    · rw [if_neg c, fst1_t (by rw [decide_eq_false c]; rfl), if_neg (by rw [nI_eq9 (by omega) (by omega)]; omega)]
      rfl
theorem po_judge (d : Nat) (h b : Int32) (M : am_M) (hI : IV M M) : PO d i11_judge i12_judge [.int h, .int b] M := by
  obtain ⟨nb, ng, hW, hg, hR, hD⟩ := hI.1
  have hn := hW.2.1
  have h7 : M 9 7 = nI nb := hR.1.trans hW.1
  have h8 : M 9 8 = nI ng := hR.2.1.trans hW.2.2.1
  have cB : ∀ (d' : Nat) (x : Int32) (N : am_M), N 9 7 = M 9 7 → am_call (d' + 2) i11_isBook [.ref 0, .int x] N = some (some (.int (bi (0 ≤ x.toInt ∧ x.toInt < nb))), N) := fun d' x N h => c_isBook d' x N nb (h.trans h7) hn
  have cP : ∀ (d' : Nat) (x : Int32) (N : am_M), N 9 7 = M 9 7 → am_call (d' + 2) i11_isPlace [.ref 0, .int x] N = some (some (.int (bi (0 ≤ x.toInt ∧ x.toInt < nb))), N) := fun d' x N h => c_isPlace d' x N nb (h.trans h7) hn
  have cPB : ∀ (d' : Nat) (x y : Int32) (N : am_M), N 9 7 = M 9 7 → am_call (d' + 3) i11_isPageOfBook [.ref 0, .int x, .int y] N = some (some (.int (bi ((0 ≤ x.toInt ∧ x.toInt < nb) ∧ 0 ≤ y.toInt ∧ y.toInt < 6))), N) := fun d' x y N h => c_isPageOfBook d' x y N nb (h.trans h7) hn
  have mB : ∀ (d' : Nat) (x : Int32) (N : am_M), N 69 = M 69 → am_call (d' + 2) i12_isBook [.ref 68, .int x] N = some (some (.int (bi (0 ≤ x.toInt ∧ x.toInt < nb))), N) := fun d' x N h => m_isBook d' x N nb (by rw [h]; exact hW.1) hn
  by_cases hs : 0 ≤ h.toInt ∧ h.toInt < 4
  · obtain ⟨h', hh', rfl⟩ := i32_of (n := 4) hs.1 hs.2 (by omega)
    obtain ⟨e1, e2, ln, hl, e3, e4⟩ := hI.2.2.2.2.2 h' hh'
    by_cases hb : 0 ≤ b.toInt ∧ b.toInt < nb
    · by_cases hm : M 60 h' = 0
      · refine PO_e (k := 2) hI (M1 := M) ?_ Ch_rf ⟨eC M 2, ?_, J6_rf⟩
        · rw [ec11_judge, c_isSheet]
          simp only [Option.bind_some, Option.toList_some, Option.toList_none, List.cons_append, List.nil_append, bi_eq0, bi_eq1, bi_nem, if_true, if_false, ite_not, Classical.not_not, sg11_judge_4]
          rw [if_pos (hs), cB _ _ _ rfl]
          simp only [Option.bind_some, Option.toList_some, Option.toList_none, List.cons_append, List.nil_append, bi_eq0, bi_eq1, bi_nem, if_true, if_false, ite_not, Classical.not_not, sg11_judge_12]
          rw [if_pos (hb), c_isMissing _ h' _ hh']
          simp only [Option.bind_some, Option.toList_some, Option.toList_none, List.cons_append, List.nil_append, bi_eq0, bi_eq1, bi_nem, if_true, if_false, ite_not, Classical.not_not, sg11_judge_26]
          rw [if_pos (hm), ce _ 2 _ (by omega)]
          simp only [Option.bind_some, Option.toList_some, Option.toList_none, List.cons_append, List.nil_append, bi_eq0, bi_eq1, bi_nem, if_true, if_false, ite_not, Classical.not_not, sg11_judge_34]
        · rw [ec12_judge, m_isSheet]
          simp only [Option.bind_some, Option.toList_some, Option.toList_none, List.cons_append, List.nil_append, bi_eq0, bi_eq1, bi_nem, if_true, if_false, ite_not, Classical.not_not, sg12_judge_4]
          rw [if_pos (hs), mB _ _ _ (eC_b (by decide))]
          simp only [Option.bind_some, Option.toList_some, Option.toList_none, List.cons_append, List.nil_append, bi_eq0, bi_eq1, bi_nem, if_true, if_false, ite_not, Classical.not_not, sg12_judge_12]
          rw [if_pos (hb)]
          simp (disch := omega) only [nI_clamp, nI_in9, if_false]
          rw [eC_b (by decide), ← e1, if_pos (hm), me2]
          simp only [Option.bind_some, Option.toList_some, Option.toList_none, List.cons_append, List.nil_append, bi_eq0, bi_eq1, bi_nem, if_true, if_false, ite_not, Classical.not_not, sg12_judge_37]
      · obtain ⟨b', hb', rfl⟩ := i32_of (n := nb) hb.1 hb.2 (by omega)
        generalize hbo : (if 6 < ln then 6 else ln) = bo
        have hb6 : bo ≤ 6 ∧ bo ≤ ln := by
          rw [← hbo]
          split <;> omega
        have hbx : (if 6 < ln then nI 6 else nI ln) = nI bo := by
          rw [← hbo]
          split <;> rfl
        have hc := c_judge_l (d + 58) h' b' nb bo ln hh' hb' hn hb6.1 hl (M 69) M hR e3 bo 0 (by omega)
        have hm2 := m_judge_l (d + 57) h' b' nb bo ln hh' hb' hn hbo.symm hl M (e2 ▸ e3) bo 0 (by omega)
        have hcg : fst1 (fun j => !(decide (M (63 + h') j = M 69 (2 + 9 * b' + (3 + j))))) 0 bo = fst1 (fun j => !(decide (M 80 (40 * h' + j) = M 69 (2 + 9 * b' + (3 + j))))) 0 bo := fst1_congr bo 0 (fun j h1 h2 => by
          obtain ⟨p, hp, hpe⟩ := (hW.2.2.2.1 b' hb').2.2.2 j (by omega)
          have hsd : sd (M 69 (2 + 9 * b' + (3 + j))) := by
            rw [hpe]
            exact ⟨by rw [nI_toInt (by omega)]; omega, by rw [nI_toInt (by omega)]; omega⟩
          have hv := e4 j (by omega)
          have : (M (63 + h') j = M 69 (2 + 9 * b' + (3 + j))) ↔ (M 80 (40 * h' + j) = M 69 (2 + 9 * b' + (3 + j))) := by
            constructor
            · intro q
              rw [← q] at hsd ⊢
              exact (SV_eq hv hsd).symm
            · intro q
              have h3 : sd (M (63 + h') j) := (SV_sd hv).mpr (by rw [q]; exact hsd)
              exact (SV_eq hv h3).trans q
          simp only [this])
        refine PO_a hI (r := jdR ln bo (fst1 (fun j => !(decide (M 80 (40 * h' + j) = M 69 (2 + 9 * b' + (3 + j))))) 0 bo)) (M1 := M) ?_ Ch_rf ⟨M, ?_, J6_rf⟩
        · rw [ec11_judge, c_isSheet]
          simp only [Option.bind_some, Option.toList_some, Option.toList_none, List.cons_append, List.nil_append, bi_eq0, bi_eq1, bi_nem, if_true, if_false, ite_not, Classical.not_not, sg11_judge_4]
          rw [if_pos (hs), cB _ _ _ rfl]
          simp only [Option.bind_some, Option.toList_some, Option.toList_none, List.cons_append, List.nil_append, bi_eq0, bi_eq1, bi_nem, if_true, if_false, ite_not, Classical.not_not, sg11_judge_12]
          rw [if_pos (hb), c_isMissing _ h' _ hh']
          simp only [Option.bind_some, Option.toList_some, Option.toList_none, List.cons_append, List.nil_append, bi_eq0, bi_eq1, bi_nem, if_true, if_false, ite_not, Classical.not_not, sg11_judge_26]
          rw [if_neg (hm)]
          simp (disch := omega) only [false_or, nle9, nI_dec9, nI_add, pk_mul, pk_sub, nI_clamp, nI_in9, nI_pos9, nI_lt9, nI_le9, nI_eq9, nI_eq09, nI_le09, am_k_m1, if_true, if_false, ite_not, Classical.not_not]
          rw [e3]
          simp (disch := omega) only [nI_lt9]
          rw [hbx, ← hcg]
          exact hc
        · rw [ec12_judge, m_isSheet]
          simp only [Option.bind_some, Option.toList_some, Option.toList_none, List.cons_append, List.nil_append, bi_eq0, bi_eq1, bi_nem, if_true, if_false, ite_not, Classical.not_not, sg12_judge_4]
          rw [if_pos (hs), mB _ _ _ rfl]
          simp only [Option.bind_some, Option.toList_some, Option.toList_none, List.cons_append, List.nil_append, bi_eq0, bi_eq1, bi_nem, if_true, if_false, ite_not, Classical.not_not, sg12_judge_12]
          rw [if_pos (hb)]
          simp (disch := omega) only [nI_clamp, nI_in9, if_false]
          rw [← e1, if_neg (hm)]
          exact hm2
    · refine PO_e (k := 1) hI (M1 := M) ?_ Ch_rf ⟨eC M 1, ?_, J6_rf⟩
      · rw [ec11_judge, c_isSheet]
        simp only [Option.bind_some, Option.toList_some, Option.toList_none, List.cons_append, List.nil_append, bi_eq0, bi_eq1, bi_nem, if_true, if_false, ite_not, Classical.not_not, sg11_judge_4]
        rw [if_pos (hs), cB _ _ _ rfl]
        simp only [Option.bind_some, Option.toList_some, Option.toList_none, List.cons_append, List.nil_append, bi_eq0, bi_eq1, bi_nem, if_true, if_false, ite_not, Classical.not_not, sg11_judge_12]
        rw [if_neg (hb), ce _ 1 _ (by omega)]
        simp only [Option.bind_some, Option.toList_some, Option.toList_none, List.cons_append, List.nil_append, bi_eq0, bi_eq1, bi_nem, if_true, if_false, ite_not, Classical.not_not, sg11_judge_20]
      · rw [ec12_judge, m_isSheet]
        simp only [Option.bind_some, Option.toList_some, Option.toList_none, List.cons_append, List.nil_append, bi_eq0, bi_eq1, bi_nem, if_true, if_false, ite_not, Classical.not_not, sg12_judge_4]
        rw [if_pos (hs), mB _ _ _ (eC_b (by decide))]
        simp only [Option.bind_some, Option.toList_some, Option.toList_none, List.cons_append, List.nil_append, bi_eq0, bi_eq1, bi_nem, if_true, if_false, ite_not, Classical.not_not, sg12_judge_12]
        rw [if_neg (hb), me1]
        simp only [Option.bind_some, Option.toList_some, Option.toList_none, List.cons_append, List.nil_append, bi_eq0, bi_eq1, bi_nem, if_true, if_false, ite_not, Classical.not_not, sg12_judge_21]
  · refine PO_e (k := 1) hI (M1 := M) ?_ Ch_rf ⟨eC M 1, ?_, J6_rf⟩
    · rw [ec11_judge, c_isSheet]
      simp only [Option.bind_some, Option.toList_some, Option.toList_none, List.cons_append, List.nil_append, bi_eq0, bi_eq1, bi_nem, if_true, if_false, ite_not, Classical.not_not, sg11_judge_4]
      rw [if_neg (hs), ce _ 1 _ (by omega)]
      simp only [Option.bind_some, Option.toList_some, Option.toList_none, List.cons_append, List.nil_append, bi_eq0, bi_eq1, bi_nem, if_true, if_false, ite_not, Classical.not_not, sg11_judge_20]
    · rw [ec12_judge, m_isSheet]
      simp only [Option.bind_some, Option.toList_some, Option.toList_none, List.cons_append, List.nil_append, bi_eq0, bi_eq1, bi_nem, if_true, if_false, ite_not, Classical.not_not, sg12_judge_4]
      rw [if_neg (hs), me1]
      simp only [Option.bind_some, Option.toList_some, Option.toList_none, List.cons_append, List.nil_append, bi_eq0, bi_eq1, bi_nem, if_true, if_false, ite_not, Classical.not_not, sg12_judge_21]
