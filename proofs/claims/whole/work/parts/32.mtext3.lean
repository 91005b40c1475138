/-! TEXTS: the reference's single(), and all together -/
theorem rd_six {b : Nat → Int32} {n use : Nat} {e : Nat → Int32} {f o a : Nat} {w : Bool} : rd b n use e (f + 1) 6 none o a w = (if 48 ≤ (hr b n a w).toInt ∧ (hr b n a w).toInt < 58 then (((rdD b n w 4 (nI 0) a).1, [(rdD b n w 4 (nI 0) a).1]), (rdD b n w 4 (nI 0) a).2, w)
      else if 0 < nmx use (hr b n a w) then ((e (nmx use (hr b n a w)), [-(nI (nmx use (hr b n a w)))]), a + 1, w)
      else if o < 5 ∧ hr b n a w = nI 33 then rdNot (rd b n use e f 6 none (o + 1) (a + 1) w)
      else if o < 5 ∧ hr b n a w = nI 40 then rdPar b n (rd b n use e f 1 none (o + 1) (a + 1) w)
      else ((nI 0, []), a, true)) := by
  conv => lhs; unfold rd
  rw [if_pos rfl]
theorem nmx_le (use : Nat) (c : Int32) : nmx use c ≤ 3 := by
  unfold nmx
  (repeat' split) <;> omega
theorem prs_t {M : am_M} {a o : Nat} {w : Bool} : am_up (prs M a o w) 68 13 (nI 1) = prs M a o true := prs_u13 true
theorem prs_f {M : am_M} {a o : Nat} {w : Bool} : am_up (prs M a o w) 68 13 (nI 0) = prs M a o false := prs_u13 false
section MTZ
variable {M : am_M} {b : Nat → Int32} {fs n use : Nat} {e : Nat → Int32}
theorem t_A6 (hC : prC M b fs n use e) {f : Nat} (ih : tAll M b n use e f) : ∀ (d j o a : Nat) (w : Bool), o + j = 5 → a ≤ n → 16 * (n - a) + 3 ≤ f + 1 → am_call (d + 6 * j + 3) i12_single [.ref 68] (prs M a o w) = some (some (.int (rd b n use e (f + 1) 6 none o a w).1.1), prs M (rd b n use e (f + 1) 6 none o a w).2.1 o (rd b n use e (f + 1) 6 none o a w).2.2) := by
  obtain ⟨A6, A5, A4, A3, A2, A1, B5, B4, B3, B2, B1⟩ := ih
  intro d j o a w hj ha hf
  show am_call (d + 6 * j + 2 + 1) i12_single [.ref 68] (prs M a o w) = _
  rw [ec12_single, t_here hC (d + 6 * j + 1) _ _ _ ha]
  simp only [Option.bind_some, Option.toList_some, Option.toList_none, List.cons_append, List.nil_append, bi_eq0, bi_eq1, bi_nem, if_true, if_false, ite_not, Classical.not_not, sg12_single_4]
  rw [m_isDigit, rd_six]
  simp only [Option.bind_some, Option.toList_some, Option.toList_none, List.cons_append, List.nil_append, bi_eq0, bi_eq1, bi_nem, if_true, if_false, ite_not, Classical.not_not, sg12_single_11]
  by_cases h1 : 48 ≤ (hr b n a w).toInt ∧ (hr b n a w).toInt < 58
  · rw [if_pos h1, if_pos h1]
    exact t_digits hC (d + 6 * j) o w (hr b n a w) 4 0 (nI 0) a rfl ha
  · rw [if_neg h1, if_neg h1, t_name hC (d + 6 * j + 1)]
    simp only [Option.bind_some, Option.toList_some, Option.toList_none, List.cons_append, List.nil_append, bi_eq0, bi_eq1, bi_nem, if_true, if_false, ite_not, Classical.not_not, sg12_single_68]
    have hn3 := nmx_le use (hr b n a w)
    by_cases h2 : 0 < nmx use (hr b n a w)
    · rw [if_pos h2, if_neg (by rw [nI_le09 (by omega)]; omega), prs_7, nI_add, prs_u7, t_name hC (d + 6 * j + 1)]
      obtain ⟨h5, h6, hfs, h9, hu, h10, h11, h12, hb⟩ := id hC
      simp only [Option.bind_some, Option.toList_some, Option.toList_none, List.cons_append, List.nil_append, bi_eq0, bi_eq1, bi_nem, if_true, if_false, ite_not, Classical.not_not, sg12_single_86]
      rw [prs_o (j := 10) (by decide), h10]
      have h3 : nmx use (hr b n a w) = 1 ∨ nmx use (hr b n a w) = 2 ∨ nmx use (hr b n a w) = 3 := by omega
      rcases h3 with h3 | h3 | h3
      · rw [h3, if_pos rfl]
      · rw [h3, if_neg (nIc (by decide) (by decide) (by decide)), t_name hC (d + 6 * j + 1), h3]
        simp only [Option.bind_some, Option.toList_some, Option.toList_none, List.cons_append, List.nil_append, bi_eq0, bi_eq1, bi_nem, if_true, if_false, ite_not, Classical.not_not, sg12_single_102]
        rw [prs_o (j := 11) (by decide), h11]
      · rw [h3, if_neg (nIc (by decide) (by decide) (by decide)), t_name hC (d + 6 * j + 1), h3]
        simp only [Option.bind_some, Option.toList_some, Option.toList_none, List.cons_append, List.nil_append, bi_eq0, bi_eq1, bi_nem, if_true, if_false, ite_not, Classical.not_not, sg12_single_102]
        rw [if_neg (nIc (by decide) (by decide) (by decide)), prs_o (j := 12) (by decide), h12]
    · have h3 : nmx use (hr b n a w) = 0 := by omega
      rw [if_neg h2, if_pos (by rw [nI_le09 (by omega)]; exact h3), prs_8]
      simp (disch := omega) only [nI_lt9]
      by_cases ho : o < 5
      · obtain ⟨j', rfl⟩ : ∃ j', j = j' + 1 := ⟨j - 1, by omega⟩
        by_cases h4 : hr b n a w = nI 33
        · have hin := hr_in (b := b) (n := n) (a := a) (w := w) (fun q => by rw [q] at h4; exact absurd h4 (by decide +kernel))
          have hA := A6 (d + 5) j' (o + 1) (a + 1) w (by omega) (by omega) (by omega)
          rw [if_pos (show o < 5 ∧ hr b n a w = nI 33 from ⟨ho, h4⟩), if_pos h4, if_pos ho, if_pos h4, prs_7, nI_add, prs_u7, prs_8, nI_add, prs_u8, show d + 6 * (j' + 1) + 2 = d + 5 + 6 * j' + 3 by omega, hA]
          generalize rd b n use e f 6 none (o + 1) (a + 1) w = y
          simp only [Option.bind_some, Option.toList_some, Option.toList_none, List.cons_append, List.nil_append, bi_eq0, bi_eq1, bi_nem, if_true, if_false, ite_not, Classical.not_not, sg12_single_171, sg12_single_178]
          rw [if_pos h4, h4, if_neg (nIc (by decide) (by decide) (by decide)), if_neg (nIc (by decide) (by decide) (by decide)), prs_8, pk_sub (by omega), Nat.add_sub_cancel, prs_u8]
          unfold rdNot
          by_cases h5 : y.1.1 = 0
          · rw [if_pos h5, if_pos h5]
          · rw [if_neg h5, if_neg h5]
        · rw [if_neg h4, if_neg (show ¬ (o < 5 ∧ hr b n a w = nI 33) from fun q => h4 q.2)]
          by_cases h5 : hr b n a w = nI 40
          · have hin := hr_in (b := b) (n := n) (a := a) (w := w) (fun q => by rw [q] at h5; exact absurd h5 (by decide +kernel))
            have hA := A1 d j' (o + 1) (a + 1) w (by omega) (by omega) (by omega)
            have hle := rd_le b n use e f 1 none (o + 1) (a + 1) w
            rw [if_pos (show o < 5 ∧ hr b n a w = nI 40 from ⟨ho, h5⟩), if_pos h5, if_pos ho, if_neg h4, prs_7, nI_add, prs_u7, prs_8, nI_add, prs_u8, show d + 6 * (j' + 1) + 2 = d + 6 * j' + 8 by omega, hA]
            generalize rd b n use e f 1 none (o + 1) (a + 1) w = y at hle ⊢
            simp only [Option.bind_some, Option.toList_some, Option.toList_none, List.cons_append, List.nil_append, bi_eq0, bi_eq1, bi_nem, if_true, if_false, ite_not, Classical.not_not, sg12_single_178]
            rw [if_neg h4, if_pos h5, t_takes hC (d + 6 * j' + 6) _ _ _ (hle.2 (by omega))]
            simp only [Option.bind_some, Option.toList_some, Option.toList_none, List.cons_append, List.nil_append, bi_eq0, bi_eq1, bi_nem, if_true, if_false, ite_not, Classical.not_not, sg12_single_211]
            rw [prs_13]
            obtain ⟨⟨yv, yc⟩, ya, yw⟩ := y
            unfold rdPar
            dsimp only at hle ⊢
            cases yw with
            | true =>
              rw [if_neg (by decide), prs_t, prs_8, pk_sub (by omega), Nat.add_sub_cancel, prs_u8]
              rfl
            | false =>
              rw [if_pos (by decide)]
              by_cases h6 : hr b n ya false = nI 41
              · rw [if_pos h6, if_pos h6, prs_f, prs_8, pk_sub (by omega), Nat.add_sub_cancel, prs_u8, decide_eq_true h6]
                rfl
              · rw [if_neg h6, if_neg h6, prs_t, prs_8, pk_sub (by omega), Nat.add_sub_cancel, prs_u8, decide_eq_false h6]
                rfl
          · rw [if_neg h5, if_neg (show ¬ (o < 5 ∧ hr b n a w = nI 40) from fun q => h5 q.2), prs_t]
      · rw [if_neg (show ¬ (o < 5 ∧ hr b n a w = nI 33) from fun q => ho q.1), if_neg (show ¬ (o < 5 ∧ hr b n a w = nI 40) from fun q => ho q.1)]
        simp only [if_neg ho, prs_t, ite_self]
theorem t_all (hC : prC M b fs n use e) : ∀ f, tAll M b n use e f
  | 0 => ⟨fun d j o a w hj ha hf => by omega, fun d j o a w hj ha hf => by omega, fun d j o a w hj ha hf => by omega, fun d j o a w hj ha hf => by omega, fun d j o a w hj ha hf => by omega, fun d j o a w hj ha hf => by omega, fun d j o a w v cs w3 hj ha hf => by omega, fun d j o a w v cs w3 hj ha hf => by omega, fun d j o a w v cs w3 hj ha hf => by omega, fun d j o a w v cs w3 hj ha hf => by omega, fun d j o a w v cs w3 hj ha hf => by omega⟩
  | f + 1 => ⟨t_A6 hC (t_all hC f), t_A5 hC (t_all hC f), t_A4 hC (t_all hC f), t_A3 hC (t_all hC f), t_A2 hC (t_all hC f), t_A1 hC (t_all hC f), t_B5 hC (t_all hC f), t_B4 hC (t_all hC f), t_B3 hC (t_all hC f), t_B2 hC (t_all hC f), t_B1 hC (t_all hC f)⟩
end MTZ
