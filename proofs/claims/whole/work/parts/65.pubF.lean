/-! the public calls: voice -/
abbrev tr_T : Type := Nat × (Nat → Int32)
def tn (q : tr_T) (x : Int32) : tr_T := if q.1 < 40 then (q.1 + 1, upd q.2 q.1 x) else q
abbrev vo_T : Type := Int32 × tr_T
section
variable (N m : Int32) (k : Nat)
def vpR (x : Int32) (q : tr_T) : vo_T := (x + N, tn q (nI 10))
def vR (x : Int32) (q : tr_T) : vo_T := if k = 1 ∨ k = 4 then ((vpR N x (tn q (nI 20))).1 * nI 3, (vpR N x (tn q (nI 20))).2) else vpR N x q
def vpT (x : Int32) (q : tr_T) : vo_T := (x - m, tn q (nI 12))
def vlT (x : Int32) (q : tr_T) : vo_T := (-(vpT m x (tn q (nI 40))).1, (vpT m x (tn q (nI 40))).2)
def vT (x : Int32) (q : tr_T) : vo_T := if k = 6 then ((vlT m x (tn q (nI 70))).1 ^^^ N, (vlT m x (tn q (nI 70))).2) else if k = 3 then vlT m x q else vpT m x q
def vpG (x : Int32) (q : tr_T) : vo_T := ((vR N k x (tn q (nI 11))).1 * nI 2, (vR N k x (tn q (nI 11))).2)
def vpo (x : Int32) (q : tr_T) : vo_T := ((vpG N k x (tn q (nI 30))).1 - (vT N m k (nI 1) (vpG N k x (tn q (nI 30))).2).1, (vT N m k (nI 1) (vpG N k x (tn q (nI 30))).2).2)
def vG (x : Int32) (q : tr_T) : vo_T := if k = 5 then vpo N m k (x + nI 1) (tn q (nI 60)) else if k = 2 then vpo N m k x q else vpG N k x q
def vpL (x : Int32) (q : tr_T) : vo_T := ((vG N m k x (tn q (nI 13))).1 ^^^ (vT N m k x (vG N m k x (tn q (nI 13))).2).1, (vT N m k x (vG N m k x (tn q (nI 13))).2).2)
def vL (x : Int32) (q : tr_T) : vo_T := if k = 4 then ((vpL N m k x (tn q (nI 50))).1 - (vR N k (nI 2) (vpL N m k x (tn q (nI 50))).2).1, (vR N k (nI 2) (vpL N m k x (tn q (nI 50))).2).2) else if k = 6 then ((vG N m k x (tn q (nI 71))).1 - (vpL N m k x (vG N m k x (tn q (nI 71))).2).1, (vpL N m k x (vG N m k x (tn q (nI 71))).2).2) else vpL N m k x q
end
/-- the trace as the class has it, as the reference has it -/
def CT (N m : Int32) (M : am_M) (q : tr_T) : Prop := q.1 ≤ 40 ∧ M 58 1 = nI q.1 ∧ M 58 2 = N ∧ M 58 3 = m ∧ ∀ i, i < q.1 → M 59 i = q.2 i
def MT (N m : Int32) (k : Nat) (M : am_M) (q : tr_T) : Prop := q.1 ≤ 40 ∧ M 68 19 = nI q.1 ∧ M 68 20 = nI k ∧ M 68 21 = N ∧ M 68 22 = m ∧ ∀ i, i < q.1 → M 77 i = q.2 i
def Cv (M M' : am_M) : Prop := Ch [58, 59] M M'
def Mv (M M' : am_M) : Prop := (∀ a, a ≠ 68 → a ≠ 77 → M' a = M a) ∧ ∀ j, j < 19 → M' 68 j = M 68 j
theorem Cv_tr {M M1 M2 : am_M} (h : Cv M M1) (h2 : Cv M1 M2) : Cv M M2 := Ch_tr h h2
theorem Mv_tr {M M1 M2 : am_M} (h : Mv M M1) (h2 : Mv M1 M2) : Mv M M2 := ⟨fun a h3 h4 => (h2.1 a h3 h4).trans (h.1 a h3 h4), fun j hj => (h2.2 j hj).trans (h.2 j hj)⟩
theorem c_note {N m : Int32} (d : Nat) (x : Int32) (M : am_M) (q : tr_T) (h : CT N m M q) : ∃ M', am_call (d + 1) i9_note [.ref 58, .int x] M = some (none, M') ∧ CT N m M' (tn q x) ∧ Cv M M' := by
  obtain ⟨h0, h1, h2, h3, h4⟩ := h
  rw [ec9_note, h1]
  unfold tn
  simp (disch := omega) only [nI_lt9]
  by_cases c : q.1 < 40
  · rw [if_pos c, if_pos c]
    simp (disch := omega) only [false_or, nle9, nI_dec9, nI_add, pk_mul, pk_sub, nI_clamp, nI_in9, nI_pos9, nI_lt9, nI_le9, nI_eq9, nI_eq09, nI_le09, am_k_m1, if_true, if_false, ite_not, Classical.not_not]
    refine ⟨_, rfl, ⟨by show q.1 + 1 ≤ 40; omega, ?_, ?_, ?_, fun i hi => ?_⟩, Ch_tr (Ch_up (by decide)) (Ch_up (by decide))⟩
    · rw [au_s, au_b (by decide), h1, nI_add]
    · rw [au_j (by decide), au_b (by decide)]; exact h2
    · rw [au_j (by decide), au_b (by decide)]; exact h3
    · have hi' : i < q.1 + 1 := hi
      rw [au_b (by decide)]
      show _ = upd q.2 q.1 x i
      by_cases e : i = q.1
      · subst e; rw [au_s, upd_eq]
      · rw [au_j e, upd_ne e]; exact h4 i (by omega)
  · rw [if_neg c, if_neg c]
    exact ⟨M, rfl, ⟨h0, h1, h2, h3, h4⟩, Ch_rf⟩
theorem m_ran {N m : Int32} {k : Nat} (d : Nat) (x : Int32) (M : am_M) (q : tr_T) (h : MT N m k M q) : ∃ M', am_call (d + 1) i12_ran [.ref 68, .int x] M = some (none, M') ∧ MT N m k M' (tn q x) ∧ Mv M M' := by
  obtain ⟨h0, h1, h2, h3, h5, h4⟩ := h
  rw [ec12_ran, h1]
  unfold tn
  simp (disch := omega) only [nI_lt9]
  by_cases c : q.1 < 40
  · rw [if_pos c, if_pos c]
    simp (disch := omega) only [false_or, nle9, nI_dec9, nI_add, pk_mul, pk_sub, nI_clamp, nI_in9, nI_pos9, nI_lt9, nI_le9, nI_eq9, nI_eq09, nI_le09, am_k_m1, if_true, if_false, ite_not, Classical.not_not]
    refine ⟨_, rfl, ⟨by show q.1 + 1 ≤ 40; omega, ?_, ?_, ?_, ?_, fun i hi => ?_⟩, fun a h6 h7 => by rw [au_b h6, au_b h7], fun j hj => by rw [au_j (by omega), au_b (by decide)]⟩
    · rw [au_s, au_b (by decide), h1, nI_add]
    · rw [au_j (by decide), au_b (by decide)]; exact h2
    · rw [au_j (by decide), au_b (by decide)]; exact h3
    · rw [au_j (by decide), au_b (by decide)]; exact h5
    · have hi' : i < q.1 + 1 := hi
      rw [au_b (by decide)]
      show _ = upd q.2 q.1 x i
      by_cases e : i = q.1
      · subst e; rw [au_s, upd_eq]
      · rw [au_j e, upd_ne e]; exact h4 i (by omega)
  · rw [if_neg c, if_neg c]
    exact ⟨M, rfl, ⟨h0, h1, h2, h3, h5, h4⟩, fun _ _ _ => rfl, fun _ _ => rfl⟩
theorem cv_pR_0 {N m : Int32} (d : Nat) (x : Int32) (M : am_M) (q : tr_T) (h : CT N m M q) : ∃ M', am_call (d + 2) i5_sayReads [.ref 2, .ref 58, .int x] M = some (some (.int (vpR N x q).1), M') ∧ CT N m M' (vpR N x q).2 ∧ Cv M M' := by
  unfold vpR
  obtain ⟨M1, a1, a2, a3⟩ := c_note (d + 0) (nI 10) M q h
  rw [ec5_sayReads_k2, a1]
  simp only [Option.bind_some, Option.toList_some, Option.toList_none, List.cons_append, List.nil_append, bi_eq0, bi_eq1, bi_nem, if_true, if_false, ite_not, Classical.not_not, sg5_sayReads_k2_6]
  rw [a2.2.2.1]
  exact ⟨M1, rfl, a2, a3⟩
theorem cv_R_0 {N m : Int32} (d : Nat) (x : Int32) (M : am_M) (q : tr_T) (h : CT N m M q) : ∃ M', am_call (d + 3) i5_sayReads [.ref 2, .ref 58, .int x] M = some (some (.int (vR N 0 x q).1), M') ∧ CT N m M' (vR N 0 x q).2 ∧ Cv M M' := by
  unfold vR
  rw [if_neg (by decide)]
  exact cv_pR_0 (d + 1) x M q h
theorem cv_pT_0 {N m : Int32} (d : Nat) (x : Int32) (M : am_M) (q : tr_T) (h : CT N m M q) : ∃ M', am_call (d + 2) i5_sayTakes [.ref 2, .ref 58, .int x] M = some (some (.int (vpT m x q).1), M') ∧ CT N m M' (vpT m x q).2 ∧ Cv M M' := by
  unfold vpT
  obtain ⟨M1, a1, a2, a3⟩ := c_note (d + 0) (nI 12) M q h
  rw [ec5_sayTakes_k2, a1]
  simp only [Option.bind_some, Option.toList_some, Option.toList_none, List.cons_append, List.nil_append, bi_eq0, bi_eq1, bi_nem, if_true, if_false, ite_not, Classical.not_not, sg5_sayTakes_k2_6]
  rw [a2.2.2.2.1]
  exact ⟨M1, rfl, a2, a3⟩
theorem cv_T_0 {N m : Int32} (d : Nat) (x : Int32) (M : am_M) (q : tr_T) (h : CT N m M q) : ∃ M', am_call (d + 4) i5_sayTakes [.ref 2, .ref 58, .int x] M = some (some (.int (vT N m 0 x q).1), M') ∧ CT N m M' (vT N m 0 x q).2 ∧ Cv M M' := by
  unfold vT
  rw [if_neg (by decide), if_neg (by decide)]
  exact cv_pT_0 (d + 2) x M q h
theorem cv_pG_0 {N m : Int32} (d : Nat) (x : Int32) (M : am_M) (q : tr_T) (h : CT N m M q) : ∃ M', am_call (d + 4) i5_sayGives [.ref 2, .ref 58, .int x] M = some (some (.int (vpG N 0 x q).1), M') ∧ CT N m M' (vpG N 0 x q).2 ∧ Cv M M' := by
  unfold vpG
  obtain ⟨M1, a1, a2, a3⟩ := c_note (d + 2) (nI 11) M q h
  rw [ec5_sayGives_k2, a1]
  simp only [Option.bind_some, Option.toList_some, Option.toList_none, List.cons_append, List.nil_append, bi_eq0, bi_eq1, bi_nem, if_true, if_false, ite_not, Classical.not_not, sg5_sayGives_k2_6]
  obtain ⟨M2, b0, e0, f0⟩ := cv_R_0 (d + 0) (x) M1 _ a2
  rw [b0]
  simp only [Option.bind_some, Option.toList_some, Option.toList_none, List.cons_append, List.nil_append, bi_eq0, bi_eq1, bi_nem, if_true, if_false, ite_not, Classical.not_not, sg5_sayGives_k2_12]
  exact ⟨M2, rfl, e0, Cv_tr (a3) f0⟩
theorem cv_G_0 {N m : Int32} (d : Nat) (x : Int32) (M : am_M) (q : tr_T) (h : CT N m M q) : ∃ M', am_call (d + 6) i5_sayGives [.ref 2, .ref 58, .int x] M = some (some (.int (vG N m 0 x q).1), M') ∧ CT N m M' (vG N m 0 x q).2 ∧ Cv M M' := by
  unfold vG
  rw [if_neg (by decide), if_neg (by decide)]
  exact cv_pG_0 (d + 2) x M q h
theorem cv_pL_0 {N m : Int32} (d : Nat) (x : Int32) (M : am_M) (q : tr_T) (h : CT N m M q) : ∃ M', am_call (d + 7) i5_sayTells [.ref 2, .ref 58, .int x] M = some (some (.int (vpL N m 0 x q).1), M') ∧ CT N m M' (vpL N m 0 x q).2 ∧ Cv M M' := by
  unfold vpL
  obtain ⟨M1, a1, a2, a3⟩ := c_note (d + 5) (nI 13) M q h
  rw [ec5_sayTells_k2, a1]
  simp only [Option.bind_some, Option.toList_some, Option.toList_none, List.cons_append, List.nil_append, bi_eq0, bi_eq1, bi_nem, if_true, if_false, ite_not, Classical.not_not, sg5_sayTells_k2_6]
  obtain ⟨M2, b0, e0, f0⟩ := cv_G_0 (d + 0) (x) M1 _ a2
  rw [b0]
  simp only [Option.bind_some, Option.toList_some, Option.toList_none, List.cons_append, List.nil_append, bi_eq0, bi_eq1, bi_nem, if_true, if_false, ite_not, Classical.not_not, sg5_sayTells_k2_12]
  obtain ⟨M3, b1, e1, f1⟩ := cv_T_0 (d + 2) (x) M2 _ e0
  rw [b1]
  simp only [Option.bind_some, Option.toList_some, Option.toList_none, List.cons_append, List.nil_append, bi_eq0, bi_eq1, bi_nem, if_true, if_false, ite_not, Classical.not_not, sg5_sayTells_k2_18]
  exact ⟨M3, rfl, e1, Cv_tr (Cv_tr (a3) f0) f1⟩
theorem cv_L_0 {N m : Int32} (d : Nat) (x : Int32) (M : am_M) (q : tr_T) (h : CT N m M q) : ∃ M', am_call (d + 8) i5_sayTells [.ref 2, .ref 58, .int x] M = some (some (.int (vL N m 0 x q).1), M') ∧ CT N m M' (vL N m 0 x q).2 ∧ Cv M M' := by
  unfold vL
  rw [if_neg (by decide), if_neg (by decide)]
  exact cv_pL_0 (d + 1) x M q h
theorem cv_pR_1 {N m : Int32} (d : Nat) (x : Int32) (M : am_M) (q : tr_T) (h : CT N m M q) : ∃ M', am_call (d + 2) i5_sayReads [.ref 3, .ref 58, .int x] M = some (some (.int (vpR N x q).1), M') ∧ CT N m M' (vpR N x q).2 ∧ Cv M M' := by
  unfold vpR
  obtain ⟨M1, a1, a2, a3⟩ := c_note (d + 0) (nI 10) M q h
  rw [ec5_sayReads_k3, a1]
  simp only [Option.bind_some, Option.toList_some, Option.toList_none, List.cons_append, List.nil_append, bi_eq0, bi_eq1, bi_nem, if_true, if_false, ite_not, Classical.not_not, sg5_sayReads_k3_6]
  rw [a2.2.2.1]
  exact ⟨M1, rfl, a2, a3⟩
theorem cv_R_1 {N m : Int32} (d : Nat) (x : Int32) (M : am_M) (q : tr_T) (h : CT N m M q) : ∃ M', am_call (d + 3) i3_sayReads [.ref 3, .ref 58, .int x] M = some (some (.int (vR N 1 x q).1), M') ∧ CT N m M' (vR N 1 x q).2 ∧ Cv M M' := by
  unfold vR
  rw [if_pos (by decide)]
  obtain ⟨M1, a1, a2, a3⟩ := c_note (d + 1) (nI 20) M q h
  rw [ec3_sayReads_k3, a1]
  simp only [Option.bind_some, Option.toList_some, Option.toList_none, List.cons_append, List.nil_append, bi_eq0, bi_eq1, bi_nem, if_true, if_false, ite_not, Classical.not_not, sg3_sayReads_k3_6]
  obtain ⟨M2, b0, e0, f0⟩ := cv_pR_1 (d + 0) (x) M1 _ a2
  rw [b0]
  simp only [Option.bind_some, Option.toList_some, Option.toList_none, List.cons_append, List.nil_append, bi_eq0, bi_eq1, bi_nem, if_true, if_false, ite_not, Classical.not_not, sg3_sayReads_k3_12]
  exact ⟨M2, rfl, e0, Cv_tr (a3) f0⟩
theorem cv_pT_1 {N m : Int32} (d : Nat) (x : Int32) (M : am_M) (q : tr_T) (h : CT N m M q) : ∃ M', am_call (d + 2) i5_sayTakes [.ref 3, .ref 58, .int x] M = some (some (.int (vpT m x q).1), M') ∧ CT N m M' (vpT m x q).2 ∧ Cv M M' := by
  unfold vpT
  obtain ⟨M1, a1, a2, a3⟩ := c_note (d + 0) (nI 12) M q h
  rw [ec5_sayTakes_k3, a1]
  simp only [Option.bind_some, Option.toList_some, Option.toList_none, List.cons_append, List.nil_append, bi_eq0, bi_eq1, bi_nem, if_true, if_false, ite_not, Classical.not_not, sg5_sayTakes_k3_6]
  rw [a2.2.2.2.1]
  exact ⟨M1, rfl, a2, a3⟩
theorem cv_T_1 {N m : Int32} (d : Nat) (x : Int32) (M : am_M) (q : tr_T) (h : CT N m M q) : ∃ M', am_call (d + 4) i5_sayTakes [.ref 3, .ref 58, .int x] M = some (some (.int (vT N m 1 x q).1), M') ∧ CT N m M' (vT N m 1 x q).2 ∧ Cv M M' := by
  unfold vT
  rw [if_neg (by decide), if_neg (by decide)]
  exact cv_pT_1 (d + 2) x M q h
theorem cv_pG_1 {N m : Int32} (d : Nat) (x : Int32) (M : am_M) (q : tr_T) (h : CT N m M q) : ∃ M', am_call (d + 4) i5_sayGives [.ref 3, .ref 58, .int x] M = some (some (.int (vpG N 1 x q).1), M') ∧ CT N m M' (vpG N 1 x q).2 ∧ Cv M M' := by
  unfold vpG
  obtain ⟨M1, a1, a2, a3⟩ := c_note (d + 2) (nI 11) M q h
  rw [ec5_sayGives_k3, a1]
  simp only [Option.bind_some, Option.toList_some, Option.toList_none, List.cons_append, List.nil_append, bi_eq0, bi_eq1, bi_nem, if_true, if_false, ite_not, Classical.not_not, sg5_sayGives_k3_6]
  obtain ⟨M2, b0, e0, f0⟩ := cv_R_1 (d + 0) (x) M1 _ a2
  rw [b0]
  simp only [Option.bind_some, Option.toList_some, Option.toList_none, List.cons_append, List.nil_append, bi_eq0, bi_eq1, bi_nem, if_true, if_false, ite_not, Classical.not_not, sg5_sayGives_k3_12]
  exact ⟨M2, rfl, e0, Cv_tr (a3) f0⟩
theorem cv_G_1 {N m : Int32} (d : Nat) (x : Int32) (M : am_M) (q : tr_T) (h : CT N m M q) : ∃ M', am_call (d + 6) i5_sayGives [.ref 3, .ref 58, .int x] M = some (some (.int (vG N m 1 x q).1), M') ∧ CT N m M' (vG N m 1 x q).2 ∧ Cv M M' := by
  unfold vG
  rw [if_neg (by decide), if_neg (by decide)]
  exact cv_pG_1 (d + 2) x M q h
theorem cv_pL_1 {N m : Int32} (d : Nat) (x : Int32) (M : am_M) (q : tr_T) (h : CT N m M q) : ∃ M', am_call (d + 7) i5_sayTells [.ref 3, .ref 58, .int x] M = some (some (.int (vpL N m 1 x q).1), M') ∧ CT N m M' (vpL N m 1 x q).2 ∧ Cv M M' := by
  unfold vpL
  obtain ⟨M1, a1, a2, a3⟩ := c_note (d + 5) (nI 13) M q h
  rw [ec5_sayTells_k3, a1]
  simp only [Option.bind_some, Option.toList_some, Option.toList_none, List.cons_append, List.nil_append, bi_eq0, bi_eq1, bi_nem, if_true, if_false, ite_not, Classical.not_not, sg5_sayTells_k3_6]
  obtain ⟨M2, b0, e0, f0⟩ := cv_G_1 (d + 0) (x) M1 _ a2
  rw [b0]
  simp only [Option.bind_some, Option.toList_some, Option.toList_none, List.cons_append, List.nil_append, bi_eq0, bi_eq1, bi_nem, if_true, if_false, ite_not, Classical.not_not, sg5_sayTells_k3_12]
  obtain ⟨M3, b1, e1, f1⟩ := cv_T_1 (d + 2) (x) M2 _ e0
  rw [b1]
  simp only [Option.bind_some, Option.toList_some, Option.toList_none, List.cons_append, List.nil_append, bi_eq0, bi_eq1, bi_nem, if_true, if_false, ite_not, Classical.not_not, sg5_sayTells_k3_18]
  exact ⟨M3, rfl, e1, Cv_tr (Cv_tr (a3) f0) f1⟩
theorem cv_L_1 {N m : Int32} (d : Nat) (x : Int32) (M : am_M) (q : tr_T) (h : CT N m M q) : ∃ M', am_call (d + 8) i5_sayTells [.ref 3, .ref 58, .int x] M = some (some (.int (vL N m 1 x q).1), M') ∧ CT N m M' (vL N m 1 x q).2 ∧ Cv M M' := by
  unfold vL
  rw [if_neg (by decide), if_neg (by decide)]
  exact cv_pL_1 (d + 1) x M q h
theorem cv_pR_2 {N m : Int32} (d : Nat) (x : Int32) (M : am_M) (q : tr_T) (h : CT N m M q) : ∃ M', am_call (d + 2) i5_sayReads [.ref 4, .ref 58, .int x] M = some (some (.int (vpR N x q).1), M') ∧ CT N m M' (vpR N x q).2 ∧ Cv M M' := by
  unfold vpR
  obtain ⟨M1, a1, a2, a3⟩ := c_note (d + 0) (nI 10) M q h
  rw [ec5_sayReads_k4, a1]
  simp only [Option.bind_some, Option.toList_some, Option.toList_none, List.cons_append, List.nil_append, bi_eq0, bi_eq1, bi_nem, if_true, if_false, ite_not, Classical.not_not, sg5_sayReads_k4_6]
  rw [a2.2.2.1]
  exact ⟨M1, rfl, a2, a3⟩
theorem cv_R_2 {N m : Int32} (d : Nat) (x : Int32) (M : am_M) (q : tr_T) (h : CT N m M q) : ∃ M', am_call (d + 3) i5_sayReads [.ref 4, .ref 58, .int x] M = some (some (.int (vR N 2 x q).1), M') ∧ CT N m M' (vR N 2 x q).2 ∧ Cv M M' := by
  unfold vR
  rw [if_neg (by decide)]
  exact cv_pR_2 (d + 1) x M q h
theorem cv_pT_2 {N m : Int32} (d : Nat) (x : Int32) (M : am_M) (q : tr_T) (h : CT N m M q) : ∃ M', am_call (d + 2) i5_sayTakes [.ref 4, .ref 58, .int x] M = some (some (.int (vpT m x q).1), M') ∧ CT N m M' (vpT m x q).2 ∧ Cv M M' := by
  unfold vpT
  obtain ⟨M1, a1, a2, a3⟩ := c_note (d + 0) (nI 12) M q h
  rw [ec5_sayTakes_k4, a1]
  simp only [Option.bind_some, Option.toList_some, Option.toList_none, List.cons_append, List.nil_append, bi_eq0, bi_eq1, bi_nem, if_true, if_false, ite_not, Classical.not_not, sg5_sayTakes_k4_6]
  rw [a2.2.2.2.1]
  exact ⟨M1, rfl, a2, a3⟩
theorem cv_T_2 {N m : Int32} (d : Nat) (x : Int32) (M : am_M) (q : tr_T) (h : CT N m M q) : ∃ M', am_call (d + 4) i5_sayTakes [.ref 4, .ref 58, .int x] M = some (some (.int (vT N m 2 x q).1), M') ∧ CT N m M' (vT N m 2 x q).2 ∧ Cv M M' := by
  unfold vT
  rw [if_neg (by decide), if_neg (by decide)]
  exact cv_pT_2 (d + 2) x M q h
theorem cv_pG_2 {N m : Int32} (d : Nat) (x : Int32) (M : am_M) (q : tr_T) (h : CT N m M q) : ∃ M', am_call (d + 4) i5_sayGives [.ref 4, .ref 58, .int x] M = some (some (.int (vpG N 2 x q).1), M') ∧ CT N m M' (vpG N 2 x q).2 ∧ Cv M M' := by
  unfold vpG
  obtain ⟨M1, a1, a2, a3⟩ := c_note (d + 2) (nI 11) M q h
  rw [ec5_sayGives_k4, a1]
  simp only [Option.bind_some, Option.toList_some, Option.toList_none, List.cons_append, List.nil_append, bi_eq0, bi_eq1, bi_nem, if_true, if_false, ite_not, Classical.not_not, sg5_sayGives_k4_6]
  obtain ⟨M2, b0, e0, f0⟩ := cv_R_2 (d + 0) (x) M1 _ a2
  rw [b0]
  simp only [Option.bind_some, Option.toList_some, Option.toList_none, List.cons_append, List.nil_append, bi_eq0, bi_eq1, bi_nem, if_true, if_false, ite_not, Classical.not_not, sg5_sayGives_k4_12]
  exact ⟨M2, rfl, e0, Cv_tr (a3) f0⟩
theorem cv_po_2 {N m : Int32} (d : Nat) (x : Int32) (M : am_M) (q : tr_T) (h : CT N m M q) : ∃ M', am_call (d + 5) i7_sayGives [.ref 4, .ref 58, .int x] M = some (some (.int (vpo N m 2 x q).1), M') ∧ CT N m M' (vpo N m 2 x q).2 ∧ Cv M M' := by
  unfold vpo
  obtain ⟨M1, a1, a2, a3⟩ := c_note (d + 3) (nI 30) M q h
  rw [ec7_sayGives_k4, a1]
  simp only [Option.bind_some, Option.toList_some, Option.toList_none, List.cons_append, List.nil_append, bi_eq0, bi_eq1, bi_nem, if_true, if_false, ite_not, Classical.not_not, sg7_sayGives_k4_6]
  obtain ⟨M2, b0, e0, f0⟩ := cv_pG_2 (d + 0) (x) M1 _ a2
  rw [b0]
  simp only [Option.bind_some, Option.toList_some, Option.toList_none, List.cons_append, List.nil_append, bi_eq0, bi_eq1, bi_nem, if_true, if_false, ite_not, Classical.not_not, sg7_sayGives_k4_12]
  obtain ⟨M3, b1, e1, f1⟩ := cv_T_2 (d + 0) (nI 1) M2 _ e0
  rw [b1]
  simp only [Option.bind_some, Option.toList_some, Option.toList_none, List.cons_append, List.nil_append, bi_eq0, bi_eq1, bi_nem, if_true, if_false, ite_not, Classical.not_not, sg7_sayGives_k4_18]
  exact ⟨M3, rfl, e1, Cv_tr (Cv_tr (a3) f0) f1⟩
theorem cv_G_2 {N m : Int32} (d : Nat) (x : Int32) (M : am_M) (q : tr_T) (h : CT N m M q) : ∃ M', am_call (d + 6) i7_sayGives [.ref 4, .ref 58, .int x] M = some (some (.int (vG N m 2 x q).1), M') ∧ CT N m M' (vG N m 2 x q).2 ∧ Cv M M' := by
  unfold vG
  rw [if_neg (by decide), if_pos rfl]
  exact cv_po_2 (d + 1) x M q h
theorem cv_pL_2 {N m : Int32} (d : Nat) (x : Int32) (M : am_M) (q : tr_T) (h : CT N m M q) : ∃ M', am_call (d + 7) i5_sayTells [.ref 4, .ref 58, .int x] M = some (some (.int (vpL N m 2 x q).1), M') ∧ CT N m M' (vpL N m 2 x q).2 ∧ Cv M M' := by
  unfold vpL
  obtain ⟨M1, a1, a2, a3⟩ := c_note (d + 5) (nI 13) M q h
  rw [ec5_sayTells_k4, a1]
  simp only [Option.bind_some, Option.toList_some, Option.toList_none, List.cons_append, List.nil_append, bi_eq0, bi_eq1, bi_nem, if_true, if_false, ite_not, Classical.not_not, sg5_sayTells_k4_6]
  obtain ⟨M2, b0, e0, f0⟩ := cv_G_2 (d + 0) (x) M1 _ a2
  rw [b0]
  simp only [Option.bind_some, Option.toList_some, Option.toList_none, List.cons_append, List.nil_append, bi_eq0, bi_eq1, bi_nem, if_true, if_false, ite_not, Classical.not_not, sg5_sayTells_k4_12]
  obtain ⟨M3, b1, e1, f1⟩ := cv_T_2 (d + 2) (x) M2 _ e0
  rw [b1]
  simp only [Option.bind_some, Option.toList_some, Option.toList_none, List.cons_append, List.nil_append, bi_eq0, bi_eq1, bi_nem, if_true, if_false, ite_not, Classical.not_not, sg5_sayTells_k4_18]
  exact ⟨M3, rfl, e1, Cv_tr (Cv_tr (a3) f0) f1⟩
theorem cv_L_2 {N m : Int32} (d : Nat) (x : Int32) (M : am_M) (q : tr_T) (h : CT N m M q) : ∃ M', am_call (d + 8) i5_sayTells [.ref 4, .ref 58, .int x] M = some (some (.int (vL N m 2 x q).1), M') ∧ CT N m M' (vL N m 2 x q).2 ∧ Cv M M' := by
  unfold vL
  rw [if_neg (by decide), if_neg (by decide)]
  exact cv_pL_2 (d + 1) x M q h
theorem cv_pR_3 {N m : Int32} (d : Nat) (x : Int32) (M : am_M) (q : tr_T) (h : CT N m M q) : ∃ M', am_call (d + 2) i5_sayReads [.ref 5, .ref 58, .int x] M = some (some (.int (vpR N x q).1), M') ∧ CT N m M' (vpR N x q).2 ∧ Cv M M' := by
  unfold vpR
  obtain ⟨M1, a1, a2, a3⟩ := c_note (d + 0) (nI 10) M q h
  rw [ec5_sayReads_k5, a1]
  simp only [Option.bind_some, Option.toList_some, Option.toList_none, List.cons_append, List.nil_append, bi_eq0, bi_eq1, bi_nem, if_true, if_false, ite_not, Classical.not_not, sg5_sayReads_k5_6]
  rw [a2.2.2.1]
  exact ⟨M1, rfl, a2, a3⟩
theorem cv_R_3 {N m : Int32} (d : Nat) (x : Int32) (M : am_M) (q : tr_T) (h : CT N m M q) : ∃ M', am_call (d + 3) i5_sayReads [.ref 5, .ref 58, .int x] M = some (some (.int (vR N 3 x q).1), M') ∧ CT N m M' (vR N 3 x q).2 ∧ Cv M M' := by
  unfold vR
  rw [if_neg (by decide)]
  exact cv_pR_3 (d + 1) x M q h
theorem cv_pT_3 {N m : Int32} (d : Nat) (x : Int32) (M : am_M) (q : tr_T) (h : CT N m M q) : ∃ M', am_call (d + 2) i5_sayTakes [.ref 5, .ref 58, .int x] M = some (some (.int (vpT m x q).1), M') ∧ CT N m M' (vpT m x q).2 ∧ Cv M M' := by
  unfold vpT
  obtain ⟨M1, a1, a2, a3⟩ := c_note (d + 0) (nI 12) M q h
  rw [ec5_sayTakes_k5, a1]
  simp only [Option.bind_some, Option.toList_some, Option.toList_none, List.cons_append, List.nil_append, bi_eq0, bi_eq1, bi_nem, if_true, if_false, ite_not, Classical.not_not, sg5_sayTakes_k5_6]
  rw [a2.2.2.2.1]
  exact ⟨M1, rfl, a2, a3⟩
theorem cv_lT_3 {N m : Int32} (d : Nat) (x : Int32) (M : am_M) (q : tr_T) (h : CT N m M q) : ∃ M', am_call (d + 3) i6_sayTakes [.ref 5, .ref 58, .int x] M = some (some (.int (vlT m x q).1), M') ∧ CT N m M' (vlT m x q).2 ∧ Cv M M' := by
  unfold vlT
  obtain ⟨M1, a1, a2, a3⟩ := c_note (d + 1) (nI 40) M q h
  rw [ec6_sayTakes_k5, a1]
  simp only [Option.bind_some, Option.toList_some, Option.toList_none, List.cons_append, List.nil_append, bi_eq0, bi_eq1, bi_nem, if_true, if_false, ite_not, Classical.not_not, sg6_sayTakes_k5_6]
  obtain ⟨M2, b0, e0, f0⟩ := cv_pT_3 (d + 0) (x) M1 _ a2
  rw [b0]
  simp only [Option.bind_some, Option.toList_some, Option.toList_none, List.cons_append, List.nil_append, bi_eq0, bi_eq1, bi_nem, if_true, if_false, ite_not, Classical.not_not, sg6_sayTakes_k5_12]
  exact ⟨M2, rfl, e0, Cv_tr (a3) f0⟩
theorem cv_T_3 {N m : Int32} (d : Nat) (x : Int32) (M : am_M) (q : tr_T) (h : CT N m M q) : ∃ M', am_call (d + 4) i6_sayTakes [.ref 5, .ref 58, .int x] M = some (some (.int (vT N m 3 x q).1), M') ∧ CT N m M' (vT N m 3 x q).2 ∧ Cv M M' := by
  unfold vT
  rw [if_neg (by decide), if_pos rfl]
  exact cv_lT_3 (d + 1) x M q h
theorem cv_pG_3 {N m : Int32} (d : Nat) (x : Int32) (M : am_M) (q : tr_T) (h : CT N m M q) : ∃ M', am_call (d + 4) i5_sayGives [.ref 5, .ref 58, .int x] M = some (some (.int (vpG N 3 x q).1), M') ∧ CT N m M' (vpG N 3 x q).2 ∧ Cv M M' := by
  unfold vpG
  obtain ⟨M1, a1, a2, a3⟩ := c_note (d + 2) (nI 11) M q h
  rw [ec5_sayGives_k5, a1]
  simp only [Option.bind_some, Option.toList_some, Option.toList_none, List.cons_append, List.nil_append, bi_eq0, bi_eq1, bi_nem, if_true, if_false, ite_not, Classical.not_not, sg5_sayGives_k5_6]
  obtain ⟨M2, b0, e0, f0⟩ := cv_R_3 (d + 0) (x) M1 _ a2
  rw [b0]
  simp only [Option.bind_some, Option.toList_some, Option.toList_none, List.cons_append, List.nil_append, bi_eq0, bi_eq1, bi_nem, if_true, if_false, ite_not, Classical.not_not, sg5_sayGives_k5_12]
  exact ⟨M2, rfl, e0, Cv_tr (a3) f0⟩
theorem cv_G_3 {N m : Int32} (d : Nat) (x : Int32) (M : am_M) (q : tr_T) (h : CT N m M q) : ∃ M', am_call (d + 6) i5_sayGives [.ref 5, .ref 58, .int x] M = some (some (.int (vG N m 3 x q).1), M') ∧ CT N m M' (vG N m 3 x q).2 ∧ Cv M M' := by
  unfold vG
  rw [if_neg (by decide), if_neg (by decide)]
  exact cv_pG_3 (d + 2) x M q h
theorem cv_pL_3 {N m : Int32} (d : Nat) (x : Int32) (M : am_M) (q : tr_T) (h : CT N m M q) : ∃ M', am_call (d + 7) i5_sayTells [.ref 5, .ref 58, .int x] M = some (some (.int (vpL N m 3 x q).1), M') ∧ CT N m M' (vpL N m 3 x q).2 ∧ Cv M M' := by
  unfold vpL
  obtain ⟨M1, a1, a2, a3⟩ := c_note (d + 5) (nI 13) M q h
  rw [ec5_sayTells_k5, a1]
  simp only [Option.bind_some, Option.toList_some, Option.toList_none, List.cons_append, List.nil_append, bi_eq0, bi_eq1, bi_nem, if_true, if_false, ite_not, Classical.not_not, sg5_sayTells_k5_6]
  obtain ⟨M2, b0, e0, f0⟩ := cv_G_3 (d + 0) (x) M1 _ a2
  rw [b0]
  simp only [Option.bind_some, Option.toList_some, Option.toList_none, List.cons_append, List.nil_append, bi_eq0, bi_eq1, bi_nem, if_true, if_false, ite_not, Classical.not_not, sg5_sayTells_k5_12]
  obtain ⟨M3, b1, e1, f1⟩ := cv_T_3 (d + 2) (x) M2 _ e0
  rw [b1]
  simp only [Option.bind_some, Option.toList_some, Option.toList_none, List.cons_append, List.nil_append, bi_eq0, bi_eq1, bi_nem, if_true, if_false, ite_not, Classical.not_not, sg5_sayTells_k5_18]
  exact ⟨M3, rfl, e1, Cv_tr (Cv_tr (a3) f0) f1⟩
theorem cv_L_3 {N m : Int32} (d : Nat) (x : Int32) (M : am_M) (q : tr_T) (h : CT N m M q) : ∃ M', am_call (d + 8) i5_sayTells [.ref 5, .ref 58, .int x] M = some (some (.int (vL N m 3 x q).1), M') ∧ CT N m M' (vL N m 3 x q).2 ∧ Cv M M' := by
  unfold vL
  rw [if_neg (by decide), if_neg (by decide)]
  exact cv_pL_3 (d + 1) x M q h
theorem cv_pR_4 {N m : Int32} (d : Nat) (x : Int32) (M : am_M) (q : tr_T) (h : CT N m M q) : ∃ M', am_call (d + 2) i5_sayReads [.ref 6, .ref 58, .int x] M = some (some (.int (vpR N x q).1), M') ∧ CT N m M' (vpR N x q).2 ∧ Cv M M' := by
  unfold vpR
  obtain ⟨M1, a1, a2, a3⟩ := c_note (d + 0) (nI 10) M q h
  rw [ec5_sayReads_k6, a1]
  simp only [Option.bind_some, Option.toList_some, Option.toList_none, List.cons_append, List.nil_append, bi_eq0, bi_eq1, bi_nem, if_true, if_false, ite_not, Classical.not_not, sg5_sayReads_k6_6]
  rw [a2.2.2.1]
  exact ⟨M1, rfl, a2, a3⟩
theorem cv_R_4 {N m : Int32} (d : Nat) (x : Int32) (M : am_M) (q : tr_T) (h : CT N m M q) : ∃ M', am_call (d + 3) i3_sayReads [.ref 6, .ref 58, .int x] M = some (some (.int (vR N 4 x q).1), M') ∧ CT N m M' (vR N 4 x q).2 ∧ Cv M M' := by
  unfold vR
  rw [if_pos (by decide)]
  obtain ⟨M1, a1, a2, a3⟩ := c_note (d + 1) (nI 20) M q h
  rw [ec3_sayReads_k6, a1]
  simp only [Option.bind_some, Option.toList_some, Option.toList_none, List.cons_append, List.nil_append, bi_eq0, bi_eq1, bi_nem, if_true, if_false, ite_not, Classical.not_not, sg3_sayReads_k6_6]
  obtain ⟨M2, b0, e0, f0⟩ := cv_pR_4 (d + 0) (x) M1 _ a2
  rw [b0]
  simp only [Option.bind_some, Option.toList_some, Option.toList_none, List.cons_append, List.nil_append, bi_eq0, bi_eq1, bi_nem, if_true, if_false, ite_not, Classical.not_not, sg3_sayReads_k6_12]
  exact ⟨M2, rfl, e0, Cv_tr (a3) f0⟩
theorem cv_pT_4 {N m : Int32} (d : Nat) (x : Int32) (M : am_M) (q : tr_T) (h : CT N m M q) : ∃ M', am_call (d + 2) i5_sayTakes [.ref 6, .ref 58, .int x] M = some (some (.int (vpT m x q).1), M') ∧ CT N m M' (vpT m x q).2 ∧ Cv M M' := by
  unfold vpT
  obtain ⟨M1, a1, a2, a3⟩ := c_note (d + 0) (nI 12) M q h
  rw [ec5_sayTakes_k6, a1]
  simp only [Option.bind_some, Option.toList_some, Option.toList_none, List.cons_append, List.nil_append, bi_eq0, bi_eq1, bi_nem, if_true, if_false, ite_not, Classical.not_not, sg5_sayTakes_k6_6]
  rw [a2.2.2.2.1]
  exact ⟨M1, rfl, a2, a3⟩
theorem cv_T_4 {N m : Int32} (d : Nat) (x : Int32) (M : am_M) (q : tr_T) (h : CT N m M q) : ∃ M', am_call (d + 4) i5_sayTakes [.ref 6, .ref 58, .int x] M = some (some (.int (vT N m 4 x q).1), M') ∧ CT N m M' (vT N m 4 x q).2 ∧ Cv M M' := by
  unfold vT
  rw [if_neg (by decide), if_neg (by decide)]
  exact cv_pT_4 (d + 2) x M q h
theorem cv_pG_4 {N m : Int32} (d : Nat) (x : Int32) (M : am_M) (q : tr_T) (h : CT N m M q) : ∃ M', am_call (d + 4) i5_sayGives [.ref 6, .ref 58, .int x] M = some (some (.int (vpG N 4 x q).1), M') ∧ CT N m M' (vpG N 4 x q).2 ∧ Cv M M' := by
  unfold vpG
  obtain ⟨M1, a1, a2, a3⟩ := c_note (d + 2) (nI 11) M q h
  rw [ec5_sayGives_k6, a1]
  simp only [Option.bind_some, Option.toList_some, Option.toList_none, List.cons_append, List.nil_append, bi_eq0, bi_eq1, bi_nem, if_true, if_false, ite_not, Classical.not_not, sg5_sayGives_k6_6]
  obtain ⟨M2, b0, e0, f0⟩ := cv_R_4 (d + 0) (x) M1 _ a2
  rw [b0]
  simp only [Option.bind_some, Option.toList_some, Option.toList_none, List.cons_append, List.nil_append, bi_eq0, bi_eq1, bi_nem, if_true, if_false, ite_not, Classical.not_not, sg5_sayGives_k6_12]
  exact ⟨M2, rfl, e0, Cv_tr (a3) f0⟩
theorem cv_G_4 {N m : Int32} (d : Nat) (x : Int32) (M : am_M) (q : tr_T) (h : CT N m M q) : ∃ M', am_call (d + 6) i5_sayGives [.ref 6, .ref 58, .int x] M = some (some (.int (vG N m 4 x q).1), M') ∧ CT N m M' (vG N m 4 x q).2 ∧ Cv M M' := by
  unfold vG
  rw [if_neg (by decide), if_neg (by decide)]
  exact cv_pG_4 (d + 2) x M q h
theorem cv_pL_4 {N m : Int32} (d : Nat) (x : Int32) (M : am_M) (q : tr_T) (h : CT N m M q) : ∃ M', am_call (d + 7) i5_sayTells [.ref 6, .ref 58, .int x] M = some (some (.int (vpL N m 4 x q).1), M') ∧ CT N m M' (vpL N m 4 x q).2 ∧ Cv M M' := by
  unfold vpL
  obtain ⟨M1, a1, a2, a3⟩ := c_note (d + 5) (nI 13) M q h
  rw [ec5_sayTells_k6, a1]
  simp only [Option.bind_some, Option.toList_some, Option.toList_none, List.cons_append, List.nil_append, bi_eq0, bi_eq1, bi_nem, if_true, if_false, ite_not, Classical.not_not, sg5_sayTells_k6_6]
  obtain ⟨M2, b0, e0, f0⟩ := cv_G_4 (d + 0) (x) M1 _ a2
  rw [b0]
  simp only [Option.bind_some, Option.toList_some, Option.toList_none, List.cons_append, List.nil_append, bi_eq0, bi_eq1, bi_nem, if_true, if_false, ite_not, Classical.not_not, sg5_sayTells_k6_12]
  obtain ⟨M3, b1, e1, f1⟩ := cv_T_4 (d + 2) (x) M2 _ e0
  rw [b1]
  simp only [Option.bind_some, Option.toList_some, Option.toList_none, List.cons_append, List.nil_append, bi_eq0, bi_eq1, bi_nem, if_true, if_false, ite_not, Classical.not_not, sg5_sayTells_k6_18]
  exact ⟨M3, rfl, e1, Cv_tr (Cv_tr (a3) f0) f1⟩
theorem cv_L_4 {N m : Int32} (d : Nat) (x : Int32) (M : am_M) (q : tr_T) (h : CT N m M q) : ∃ M', am_call (d + 8) i2_sayTells [.ref 6, .ref 58, .int x] M = some (some (.int (vL N m 4 x q).1), M') ∧ CT N m M' (vL N m 4 x q).2 ∧ Cv M M' := by
  unfold vL
  rw [if_pos rfl]
  obtain ⟨M1, a1, a2, a3⟩ := c_note (d + 6) (nI 50) M q h
  rw [ec2_sayTells_k6, a1]
  simp only [Option.bind_some, Option.toList_some, Option.toList_none, List.cons_append, List.nil_append, bi_eq0, bi_eq1, bi_nem, if_true, if_false, ite_not, Classical.not_not, sg2_sayTells_k6_6]
  obtain ⟨M2, b0, e0, f0⟩ := cv_pL_4 (d + 0) (x) M1 _ a2
  rw [b0]
  simp only [Option.bind_some, Option.toList_some, Option.toList_none, List.cons_append, List.nil_append, bi_eq0, bi_eq1, bi_nem, if_true, if_false, ite_not, Classical.not_not, sg2_sayTells_k6_12]
  obtain ⟨M3, b1, e1, f1⟩ := cv_R_4 (d + 4) (nI 2) M2 _ e0
  rw [b1]
  simp only [Option.bind_some, Option.toList_some, Option.toList_none, List.cons_append, List.nil_append, bi_eq0, bi_eq1, bi_nem, if_true, if_false, ite_not, Classical.not_not, sg2_sayTells_k6_18]
  exact ⟨M3, rfl, e1, Cv_tr (Cv_tr (a3) f0) f1⟩
theorem cv_pR_5 {N m : Int32} (d : Nat) (x : Int32) (M : am_M) (q : tr_T) (h : CT N m M q) : ∃ M', am_call (d + 2) i5_sayReads [.ref 7, .ref 58, .int x] M = some (some (.int (vpR N x q).1), M') ∧ CT N m M' (vpR N x q).2 ∧ Cv M M' := by
  unfold vpR
  obtain ⟨M1, a1, a2, a3⟩ := c_note (d + 0) (nI 10) M q h
  rw [ec5_sayReads_k7, a1]
  simp only [Option.bind_some, Option.toList_some, Option.toList_none, List.cons_append, List.nil_append, bi_eq0, bi_eq1, bi_nem, if_true, if_false, ite_not, Classical.not_not, sg5_sayReads_k7_6]
  rw [a2.2.2.1]
  exact ⟨M1, rfl, a2, a3⟩
theorem cv_R_5 {N m : Int32} (d : Nat) (x : Int32) (M : am_M) (q : tr_T) (h : CT N m M q) : ∃ M', am_call (d + 3) i5_sayReads [.ref 7, .ref 58, .int x] M = some (some (.int (vR N 5 x q).1), M') ∧ CT N m M' (vR N 5 x q).2 ∧ Cv M M' := by
  unfold vR
  rw [if_neg (by decide)]
  exact cv_pR_5 (d + 1) x M q h
theorem cv_pT_5 {N m : Int32} (d : Nat) (x : Int32) (M : am_M) (q : tr_T) (h : CT N m M q) : ∃ M', am_call (d + 2) i5_sayTakes [.ref 7, .ref 58, .int x] M = some (some (.int (vpT m x q).1), M') ∧ CT N m M' (vpT m x q).2 ∧ Cv M M' := by
  unfold vpT
  obtain ⟨M1, a1, a2, a3⟩ := c_note (d + 0) (nI 12) M q h
  rw [ec5_sayTakes_k7, a1]
  simp only [Option.bind_some, Option.toList_some, Option.toList_none, List.cons_append, List.nil_append, bi_eq0, bi_eq1, bi_nem, if_true, if_false, ite_not, Classical.not_not, sg5_sayTakes_k7_6]
  rw [a2.2.2.2.1]
  exact ⟨M1, rfl, a2, a3⟩
theorem cv_T_5 {N m : Int32} (d : Nat) (x : Int32) (M : am_M) (q : tr_T) (h : CT N m M q) : ∃ M', am_call (d + 4) i5_sayTakes [.ref 7, .ref 58, .int x] M = some (some (.int (vT N m 5 x q).1), M') ∧ CT N m M' (vT N m 5 x q).2 ∧ Cv M M' := by
  unfold vT
  rw [if_neg (by decide), if_neg (by decide)]
  exact cv_pT_5 (d + 2) x M q h
theorem cv_pG_5 {N m : Int32} (d : Nat) (x : Int32) (M : am_M) (q : tr_T) (h : CT N m M q) : ∃ M', am_call (d + 4) i5_sayGives [.ref 7, .ref 58, .int x] M = some (some (.int (vpG N 5 x q).1), M') ∧ CT N m M' (vpG N 5 x q).2 ∧ Cv M M' := by
  unfold vpG
  obtain ⟨M1, a1, a2, a3⟩ := c_note (d + 2) (nI 11) M q h
  rw [ec5_sayGives_k7, a1]
  simp only [Option.bind_some, Option.toList_some, Option.toList_none, List.cons_append, List.nil_append, bi_eq0, bi_eq1, bi_nem, if_true, if_false, ite_not, Classical.not_not, sg5_sayGives_k7_6]
  obtain ⟨M2, b0, e0, f0⟩ := cv_R_5 (d + 0) (x) M1 _ a2
  rw [b0]
  simp only [Option.bind_some, Option.toList_some, Option.toList_none, List.cons_append, List.nil_append, bi_eq0, bi_eq1, bi_nem, if_true, if_false, ite_not, Classical.not_not, sg5_sayGives_k7_12]
  exact ⟨M2, rfl, e0, Cv_tr (a3) f0⟩
theorem cv_po_5 {N m : Int32} (d : Nat) (x : Int32) (M : am_M) (q : tr_T) (h : CT N m M q) : ∃ M', am_call (d + 5) i7_sayGives [.ref 7, .ref 58, .int x] M = some (some (.int (vpo N m 5 x q).1), M') ∧ CT N m M' (vpo N m 5 x q).2 ∧ Cv M M' := by
  unfold vpo
  obtain ⟨M1, a1, a2, a3⟩ := c_note (d + 3) (nI 30) M q h
  rw [ec7_sayGives_k7, a1]
  simp only [Option.bind_some, Option.toList_some, Option.toList_none, List.cons_append, List.nil_append, bi_eq0, bi_eq1, bi_nem, if_true, if_false, ite_not, Classical.not_not, sg7_sayGives_k7_6]
  obtain ⟨M2, b0, e0, f0⟩ := cv_pG_5 (d + 0) (x) M1 _ a2
  rw [b0]
  simp only [Option.bind_some, Option.toList_some, Option.toList_none, List.cons_append, List.nil_append, bi_eq0, bi_eq1, bi_nem, if_true, if_false, ite_not, Classical.not_not, sg7_sayGives_k7_12]
  obtain ⟨M3, b1, e1, f1⟩ := cv_T_5 (d + 0) (nI 1) M2 _ e0
  rw [b1]
  simp only [Option.bind_some, Option.toList_some, Option.toList_none, List.cons_append, List.nil_append, bi_eq0, bi_eq1, bi_nem, if_true, if_false, ite_not, Classical.not_not, sg7_sayGives_k7_18]
  exact ⟨M3, rfl, e1, Cv_tr (Cv_tr (a3) f0) f1⟩
theorem cv_G_5 {N m : Int32} (d : Nat) (x : Int32) (M : am_M) (q : tr_T) (h : CT N m M q) : ∃ M', am_call (d + 6) i4_sayGives [.ref 7, .ref 58, .int x] M = some (some (.int (vG N m 5 x q).1), M') ∧ CT N m M' (vG N m 5 x q).2 ∧ Cv M M' := by
  unfold vG
  rw [if_pos rfl]
  obtain ⟨M1, a1, a2, a3⟩ := c_note (d + 4) (nI 60) M q h
  rw [ec4_sayGives_k7, a1]
  simp only [Option.bind_some, Option.toList_some, Option.toList_none, List.cons_append, List.nil_append, bi_eq0, bi_eq1, bi_nem, if_true, if_false, ite_not, Classical.not_not, sg4_sayGives_k7_6]
  obtain ⟨M2, b0, e0, f0⟩ := cv_po_5 (d + 0) (x + nI 1) M1 _ a2
  rw [b0]
  simp only [Option.bind_some, Option.toList_some, Option.toList_none, List.cons_append, List.nil_append, bi_eq0, bi_eq1, bi_nem, if_true, if_false, ite_not, Classical.not_not, sg4_sayGives_k7_14]
  exact ⟨M2, rfl, e0, Cv_tr (a3) f0⟩
theorem cv_pL_5 {N m : Int32} (d : Nat) (x : Int32) (M : am_M) (q : tr_T) (h : CT N m M q) : ∃ M', am_call (d + 7) i5_sayTells [.ref 7, .ref 58, .int x] M = some (some (.int (vpL N m 5 x q).1), M') ∧ CT N m M' (vpL N m 5 x q).2 ∧ Cv M M' := by
  unfold vpL
  obtain ⟨M1, a1, a2, a3⟩ := c_note (d + 5) (nI 13) M q h
  rw [ec5_sayTells_k7, a1]
  simp only [Option.bind_some, Option.toList_some, Option.toList_none, List.cons_append, List.nil_append, bi_eq0, bi_eq1, bi_nem, if_true, if_false, ite_not, Classical.not_not, sg5_sayTells_k7_6]
  obtain ⟨M2, b0, e0, f0⟩ := cv_G_5 (d + 0) (x) M1 _ a2
  rw [b0]
  simp only [Option.bind_some, Option.toList_some, Option.toList_none, List.cons_append, List.nil_append, bi_eq0, bi_eq1, bi_nem, if_true, if_false, ite_not, Classical.not_not, sg5_sayTells_k7_12]
  obtain ⟨M3, b1, e1, f1⟩ := cv_T_5 (d + 2) (x) M2 _ e0
  rw [b1]
  simp only [Option.bind_some, Option.toList_some, Option.toList_none, List.cons_append, List.nil_append, bi_eq0, bi_eq1, bi_nem, if_true, if_false, ite_not, Classical.not_not, sg5_sayTells_k7_18]
  exact ⟨M3, rfl, e1, Cv_tr (Cv_tr (a3) f0) f1⟩
theorem cv_L_5 {N m : Int32} (d : Nat) (x : Int32) (M : am_M) (q : tr_T) (h : CT N m M q) : ∃ M', am_call (d + 8) i5_sayTells [.ref 7, .ref 58, .int x] M = some (some (.int (vL N m 5 x q).1), M') ∧ CT N m M' (vL N m 5 x q).2 ∧ Cv M M' := by
  unfold vL
  rw [if_neg (by decide), if_neg (by decide)]
  exact cv_pL_5 (d + 1) x M q h
theorem cv_pR_6 {N m : Int32} (d : Nat) (x : Int32) (M : am_M) (q : tr_T) (h : CT N m M q) : ∃ M', am_call (d + 2) i5_sayReads [.ref 8, .ref 58, .int x] M = some (some (.int (vpR N x q).1), M') ∧ CT N m M' (vpR N x q).2 ∧ Cv M M' := by
  unfold vpR
  obtain ⟨M1, a1, a2, a3⟩ := c_note (d + 0) (nI 10) M q h
  rw [ec5_sayReads_k8, a1]
  simp only [Option.bind_some, Option.toList_some, Option.toList_none, List.cons_append, List.nil_append, bi_eq0, bi_eq1, bi_nem, if_true, if_false, ite_not, Classical.not_not, sg5_sayReads_k8_6]
  rw [a2.2.2.1]
  exact ⟨M1, rfl, a2, a3⟩
theorem cv_R_6 {N m : Int32} (d : Nat) (x : Int32) (M : am_M) (q : tr_T) (h : CT N m M q) : ∃ M', am_call (d + 3) i5_sayReads [.ref 8, .ref 58, .int x] M = some (some (.int (vR N 6 x q).1), M') ∧ CT N m M' (vR N 6 x q).2 ∧ Cv M M' := by
  unfold vR
  rw [if_neg (by decide)]
  exact cv_pR_6 (d + 1) x M q h
theorem cv_pT_6 {N m : Int32} (d : Nat) (x : Int32) (M : am_M) (q : tr_T) (h : CT N m M q) : ∃ M', am_call (d + 2) i5_sayTakes [.ref 8, .ref 58, .int x] M = some (some (.int (vpT m x q).1), M') ∧ CT N m M' (vpT m x q).2 ∧ Cv M M' := by
  unfold vpT
  obtain ⟨M1, a1, a2, a3⟩ := c_note (d + 0) (nI 12) M q h
  rw [ec5_sayTakes_k8, a1]
  simp only [Option.bind_some, Option.toList_some, Option.toList_none, List.cons_append, List.nil_append, bi_eq0, bi_eq1, bi_nem, if_true, if_false, ite_not, Classical.not_not, sg5_sayTakes_k8_6]
  rw [a2.2.2.2.1]
  exact ⟨M1, rfl, a2, a3⟩
theorem cv_lT_6 {N m : Int32} (d : Nat) (x : Int32) (M : am_M) (q : tr_T) (h : CT N m M q) : ∃ M', am_call (d + 3) i6_sayTakes [.ref 8, .ref 58, .int x] M = some (some (.int (vlT m x q).1), M') ∧ CT N m M' (vlT m x q).2 ∧ Cv M M' := by
  unfold vlT
  obtain ⟨M1, a1, a2, a3⟩ := c_note (d + 1) (nI 40) M q h
  rw [ec6_sayTakes_k8, a1]
  simp only [Option.bind_some, Option.toList_some, Option.toList_none, List.cons_append, List.nil_append, bi_eq0, bi_eq1, bi_nem, if_true, if_false, ite_not, Classical.not_not, sg6_sayTakes_k8_6]
  obtain ⟨M2, b0, e0, f0⟩ := cv_pT_6 (d + 0) (x) M1 _ a2
  rw [b0]
  simp only [Option.bind_some, Option.toList_some, Option.toList_none, List.cons_append, List.nil_append, bi_eq0, bi_eq1, bi_nem, if_true, if_false, ite_not, Classical.not_not, sg6_sayTakes_k8_12]
  exact ⟨M2, rfl, e0, Cv_tr (a3) f0⟩
theorem cv_T_6 {N m : Int32} (d : Nat) (x : Int32) (M : am_M) (q : tr_T) (h : CT N m M q) : ∃ M', am_call (d + 4) i0_sayTakes [.ref 8, .ref 58, .int x] M = some (some (.int (vT N m 6 x q).1), M') ∧ CT N m M' (vT N m 6 x q).2 ∧ Cv M M' := by
  unfold vT
  rw [if_pos rfl]
  obtain ⟨M1, a1, a2, a3⟩ := c_note (d + 2) (nI 70) M q h
  rw [ec0_sayTakes_k8, a1]
  simp only [Option.bind_some, Option.toList_some, Option.toList_none, List.cons_append, List.nil_append, bi_eq0, bi_eq1, bi_nem, if_true, if_false, ite_not, Classical.not_not, sg0_sayTakes_k8_6]
  obtain ⟨M2, b0, e0, f0⟩ := cv_lT_6 (d + 0) (x) M1 _ a2
  rw [b0]
  simp only [Option.bind_some, Option.toList_some, Option.toList_none, List.cons_append, List.nil_append, bi_eq0, bi_eq1, bi_nem, if_true, if_false, ite_not, Classical.not_not, sg0_sayTakes_k8_12]
  rw [e0.2.2.1]
  exact ⟨M2, rfl, e0, Cv_tr (a3) f0⟩
theorem cv_pG_6 {N m : Int32} (d : Nat) (x : Int32) (M : am_M) (q : tr_T) (h : CT N m M q) : ∃ M', am_call (d + 4) i5_sayGives [.ref 8, .ref 58, .int x] M = some (some (.int (vpG N 6 x q).1), M') ∧ CT N m M' (vpG N 6 x q).2 ∧ Cv M M' := by
  unfold vpG
  obtain ⟨M1, a1, a2, a3⟩ := c_note (d + 2) (nI 11) M q h
  rw [ec5_sayGives_k8, a1]
  simp only [Option.bind_some, Option.toList_some, Option.toList_none, List.cons_append, List.nil_append, bi_eq0, bi_eq1, bi_nem, if_true, if_false, ite_not, Classical.not_not, sg5_sayGives_k8_6]
  obtain ⟨M2, b0, e0, f0⟩ := cv_R_6 (d + 0) (x) M1 _ a2
  rw [b0]
  simp only [Option.bind_some, Option.toList_some, Option.toList_none, List.cons_append, List.nil_append, bi_eq0, bi_eq1, bi_nem, if_true, if_false, ite_not, Classical.not_not, sg5_sayGives_k8_12]
  exact ⟨M2, rfl, e0, Cv_tr (a3) f0⟩
theorem cv_G_6 {N m : Int32} (d : Nat) (x : Int32) (M : am_M) (q : tr_T) (h : CT N m M q) : ∃ M', am_call (d + 6) i5_sayGives [.ref 8, .ref 58, .int x] M = some (some (.int (vG N m 6 x q).1), M') ∧ CT N m M' (vG N m 6 x q).2 ∧ Cv M M' := by
  unfold vG
  rw [if_neg (by decide), if_neg (by decide)]
  exact cv_pG_6 (d + 2) x M q h
theorem cv_pL_6 {N m : Int32} (d : Nat) (x : Int32) (M : am_M) (q : tr_T) (h : CT N m M q) : ∃ M', am_call (d + 7) i5_sayTells [.ref 8, .ref 58, .int x] M = some (some (.int (vpL N m 6 x q).1), M') ∧ CT N m M' (vpL N m 6 x q).2 ∧ Cv M M' := by
  unfold vpL
  obtain ⟨M1, a1, a2, a3⟩ := c_note (d + 5) (nI 13) M q h
  rw [ec5_sayTells_k8, a1]
  simp only [Option.bind_some, Option.toList_some, Option.toList_none, List.cons_append, List.nil_append, bi_eq0, bi_eq1, bi_nem, if_true, if_false, ite_not, Classical.not_not, sg5_sayTells_k8_6]
  obtain ⟨M2, b0, e0, f0⟩ := cv_G_6 (d + 0) (x) M1 _ a2
  rw [b0]
  simp only [Option.bind_some, Option.toList_some, Option.toList_none, List.cons_append, List.nil_append, bi_eq0, bi_eq1, bi_nem, if_true, if_false, ite_not, Classical.not_not, sg5_sayTells_k8_12]
  obtain ⟨M3, b1, e1, f1⟩ := cv_T_6 (d + 2) (x) M2 _ e0
  rw [b1]
  simp only [Option.bind_some, Option.toList_some, Option.toList_none, List.cons_append, List.nil_append, bi_eq0, bi_eq1, bi_nem, if_true, if_false, ite_not, Classical.not_not, sg5_sayTells_k8_18]
  exact ⟨M3, rfl, e1, Cv_tr (Cv_tr (a3) f0) f1⟩
theorem cv_L_6 {N m : Int32} (d : Nat) (x : Int32) (M : am_M) (q : tr_T) (h : CT N m M q) : ∃ M', am_call (d + 8) i0_sayTells [.ref 8, .ref 58, .int x] M = some (some (.int (vL N m 6 x q).1), M') ∧ CT N m M' (vL N m 6 x q).2 ∧ Cv M M' := by
  unfold vL
  rw [if_neg (by decide), if_pos rfl]
  obtain ⟨M1, a1, a2, a3⟩ := c_note (d + 6) (nI 71) M q h
  rw [ec0_sayTells_k8, a1]
  simp only [Option.bind_some, Option.toList_some, Option.toList_none, List.cons_append, List.nil_append, bi_eq0, bi_eq1, bi_nem, if_true, if_false, ite_not, Classical.not_not, sg0_sayTells_k8_6]
  obtain ⟨M2, b0, e0, f0⟩ := cv_G_6 (d + 1) (x) M1 _ a2
  rw [b0]
  simp only [Option.bind_some, Option.toList_some, Option.toList_none, List.cons_append, List.nil_append, bi_eq0, bi_eq1, bi_nem, if_true, if_false, ite_not, Classical.not_not, sg0_sayTells_k8_12]
  obtain ⟨M3, b1, e1, f1⟩ := cv_pL_6 (d + 0) (x) M2 _ e0
  rw [b1]
  simp only [Option.bind_some, Option.toList_some, Option.toList_none, List.cons_append, List.nil_append, bi_eq0, bi_eq1, bi_nem, if_true, if_false, ite_not, Classical.not_not, sg0_sayTells_k8_18]
  exact ⟨M3, rfl, e1, Cv_tr (Cv_tr (a3) f0) f1⟩
theorem mv_pR {N m : Int32} {k : Nat} (d : Nat) (x : Int32) (M : am_M) (q : tr_T) (h : MT N m k M q) : ∃ M', am_call (d + 2) i12_plainReads [.ref 68, .int x] M = some (some (.int (vpR N x q).1), M') ∧ MT N m k M' (vpR N x q).2 ∧ Mv M M' := by
  obtain ⟨M1, a1, a2, a3⟩ := m_ran d (nI 10) M q h
  rw [ec12_plainReads, a1]
  simp only [Option.bind_some, Option.toList_some, Option.toList_none, List.cons_append, List.nil_append, bi_eq0, bi_eq1, bi_nem, if_true, if_false, ite_not, Classical.not_not, sg12_plainReads_6]
  rw [a2.2.2.2.1]
  exact ⟨M1, rfl, a2, a3⟩
theorem mv_pT {N m : Int32} {k : Nat} (d : Nat) (x : Int32) (M : am_M) (q : tr_T) (h : MT N m k M q) : ∃ M', am_call (d + 2) i12_plainTakes [.ref 68, .int x] M = some (some (.int (vpT m x q).1), M') ∧ MT N m k M' (vpT m x q).2 ∧ Mv M M' := by
  obtain ⟨M1, a1, a2, a3⟩ := m_ran d (nI 12) M q h
  rw [ec12_plainTakes, a1]
  simp only [Option.bind_some, Option.toList_some, Option.toList_none, List.cons_append, List.nil_append, bi_eq0, bi_eq1, bi_nem, if_true, if_false, ite_not, Classical.not_not, sg12_plainTakes_6]
  rw [a2.2.2.2.2.1]
  exact ⟨M1, rfl, a2, a3⟩
theorem mv_lT {N m : Int32} {k : Nat} (d : Nat) (x : Int32) (M : am_M) (q : tr_T) (h : MT N m k M q) : ∃ M', am_call (d + 3) i12_lawTakes [.ref 68, .int x] M = some (some (.int (vlT m x q).1), M') ∧ MT N m k M' (vlT m x q).2 ∧ Mv M M' := by
  obtain ⟨M1, a1, a2, a3⟩ := m_ran (d + 1) (nI 40) M q h
  rw [ec12_lawTakes, a1]
  simp only [Option.bind_some, Option.toList_some, Option.toList_none, List.cons_append, List.nil_append, bi_eq0, bi_eq1, bi_nem, if_true, if_false, ite_not, Classical.not_not, sg12_lawTakes_6]
  obtain ⟨M2, b1, b2, b3⟩ := mv_pT d x M1 _ a2
  rw [b1]
  simp only [Option.bind_some, Option.toList_some, Option.toList_none, List.cons_append, List.nil_append, bi_eq0, bi_eq1, bi_nem, if_true, if_false, ite_not, Classical.not_not, sg12_lawTakes_11]
  exact ⟨M2, rfl, b2, Mv_tr a3 b3⟩
theorem mv_R {N m : Int32} {k : Nat} (hk : k ≤ 6) (d : Nat) (x : Int32) (M : am_M) (q : tr_T) (h : MT N m k M q) : ∃ M', am_call (d + 3) i12_readsBy [.ref 68, .int x] M = some (some (.int (vR N k x q).1), M') ∧ MT N m k M' (vR N k x q).2 ∧ Mv M M' := by
  rw [ec12_readsBy, h.2.2.1, m_isUnder _ k 1 hk (by omega)]
  simp only [Option.bind_some, Option.toList_some, Option.toList_none, List.cons_append, List.nil_append, bi_eq0, bi_eq1, bi_nem, if_true, if_false, ite_not, Classical.not_not, sg12_readsBy_8]
  unfold vR un01
  by_cases c : k = 1 ∨ k = 4
  · rw [if_pos (show 1 = 0 ∨ k = 1 ∨ (3 < k ∧ k - 3 = 1) by omega), if_neg (by decide +kernel), if_pos c]
    obtain ⟨M1, a1, a2, a3⟩ := m_ran (d + 1) (nI 20) M q h
    rw [a1]
    simp only [Option.bind_some, Option.toList_some, Option.toList_none, List.cons_append, List.nil_append, bi_eq0, bi_eq1, bi_nem, if_true, if_false, ite_not, Classical.not_not, sg12_readsBy_23]
    obtain ⟨M2, b1, b2, b3⟩ := mv_pR d x M1 _ a2
    rw [b1]
    simp only [Option.bind_some, Option.toList_some, Option.toList_none, List.cons_append, List.nil_append, bi_eq0, bi_eq1, bi_nem, if_true, if_false, ite_not, Classical.not_not, sg12_readsBy_28]
    exact ⟨M2, rfl, b2, Mv_tr a3 b3⟩
  · rw [if_neg (show ¬ (1 = 0 ∨ k = 1 ∨ (3 < k ∧ k - 3 = 1)) by omega), if_pos nI_0, if_neg c]
    obtain ⟨M2, b1, b2, b3⟩ := mv_pR d x M q h
    rw [b1]
    simp only [Option.bind_some, Option.toList_some, Option.toList_none, List.cons_append, List.nil_append, bi_eq0, bi_eq1, bi_nem, if_true, if_false, ite_not, Classical.not_not, sg12_readsBy_16]
    exact ⟨M2, rfl, b2, b3⟩
theorem mv_T {N m : Int32} {k : Nat} (hk : k ≤ 6) (d : Nat) (x : Int32) (M : am_M) (q : tr_T) (h : MT N m k M q) : ∃ M', am_call (d + 4) i12_takesBy [.ref 68, .int x] M = some (some (.int (vT N m k x q).1), M') ∧ MT N m k M' (vT N m k x q).2 ∧ Mv M M' := by
  rw [ec12_takesBy, h.2.2.1]
  simp (disch := omega) only [nI_eq9]
  unfold vT
  by_cases c : k = 6
  · rw [if_pos c, if_pos c]
    obtain ⟨M1, a1, a2, a3⟩ := m_ran (d + 2) (nI 70) M q h
    rw [a1]
    simp only [Option.bind_some, Option.toList_some, Option.toList_none, List.cons_append, List.nil_append, bi_eq0, bi_eq1, bi_nem, if_true, if_false, ite_not, Classical.not_not, sg12_takesBy_15]
    obtain ⟨M2, b1, b2, b3⟩ := mv_lT d x M1 _ a2
    rw [b1]
    simp only [Option.bind_some, Option.toList_some, Option.toList_none, List.cons_append, List.nil_append, bi_eq0, bi_eq1, bi_nem, if_true, if_false, ite_not, Classical.not_not, sg12_takesBy_20]
    rw [b2.2.2.2.1]
    exact ⟨M2, rfl, b2, Mv_tr a3 b3⟩
  · rw [if_neg c, if_neg c]
    by_cases c3 : k = 3
    · rw [if_pos c3, if_pos c3]
      obtain ⟨M2, b1, b2, b3⟩ := mv_lT d x M q h
      rw [b1]
      simp only [Option.bind_some, Option.toList_some, Option.toList_none, List.cons_append, List.nil_append, bi_eq0, bi_eq1, bi_nem, if_true, if_false, ite_not, Classical.not_not, sg12_takesBy_39, sg12_takesBy_47]
      exact ⟨M2, rfl, b2, b3⟩
    · rw [if_neg c3, if_neg c3]
      obtain ⟨M2, b1, b2, b3⟩ := mv_pT (d + 1) x M q h
      rw [b1]
      simp only [Option.bind_some, Option.toList_some, Option.toList_none, List.cons_append, List.nil_append, bi_eq0, bi_eq1, bi_nem, if_true, if_false, ite_not, Classical.not_not, sg12_takesBy_47]
      exact ⟨M2, rfl, b2, b3⟩
theorem mv_pG {N m : Int32} {k : Nat} (hk : k ≤ 6) (d : Nat) (x : Int32) (M : am_M) (q : tr_T) (h : MT N m k M q) : ∃ M', am_call (d + 4) i12_plainGives [.ref 68, .int x] M = some (some (.int (vpG N k x q).1), M') ∧ MT N m k M' (vpG N k x q).2 ∧ Mv M M' := by
  obtain ⟨M1, a1, a2, a3⟩ := m_ran (d + 2) (nI 11) M q h
  rw [ec12_plainGives, a1]
  simp only [Option.bind_some, Option.toList_some, Option.toList_none, List.cons_append, List.nil_append, bi_eq0, bi_eq1, bi_nem, if_true, if_false, ite_not, Classical.not_not, sg12_plainGives_6]
  obtain ⟨M2, b1, b2, b3⟩ := mv_R hk d x M1 _ a2
  rw [b1]
  simp only [Option.bind_some, Option.toList_some, Option.toList_none, List.cons_append, List.nil_append, bi_eq0, bi_eq1, bi_nem, if_true, if_false, ite_not, Classical.not_not, sg12_plainGives_11]
  exact ⟨M2, rfl, b2, Mv_tr a3 b3⟩
theorem mv_po {N m : Int32} {k : Nat} (hk : k ≤ 6) (d : Nat) (x : Int32) (M : am_M) (q : tr_T) (h : MT N m k M q) : ∃ M', am_call (d + 5) i12_poemGives [.ref 68, .int x] M = some (some (.int (vpo N m k x q).1), M') ∧ MT N m k M' (vpo N m k x q).2 ∧ Mv M M' := by
  obtain ⟨M1, a1, a2, a3⟩ := m_ran (d + 3) (nI 30) M q h
  rw [ec12_poemGives, a1]
  simp only [Option.bind_some, Option.toList_some, Option.toList_none, List.cons_append, List.nil_append, bi_eq0, bi_eq1, bi_nem, if_true, if_false, ite_not, Classical.not_not, sg12_poemGives_6]
  obtain ⟨M2, b1, b2, b3⟩ := mv_pG hk d x M1 _ a2
  rw [b1]
  simp only [Option.bind_some, Option.toList_some, Option.toList_none, List.cons_append, List.nil_append, bi_eq0, bi_eq1, bi_nem, if_true, if_false, ite_not, Classical.not_not, sg12_poemGives_11]
  obtain ⟨M3, e1, e2, e3⟩ := mv_T hk d (nI 1) M2 _ b2
  rw [e1]
  simp only [Option.bind_some, Option.toList_some, Option.toList_none, List.cons_append, List.nil_append, bi_eq0, bi_eq1, bi_nem, if_true, if_false, ite_not, Classical.not_not, sg12_poemGives_18]
  exact ⟨M3, rfl, e2, Mv_tr (Mv_tr a3 b3) e3⟩
theorem mv_G {N m : Int32} {k : Nat} (hk : k ≤ 6) (d : Nat) (x : Int32) (M : am_M) (q : tr_T) (h : MT N m k M q) : ∃ M', am_call (d + 6) i12_givesBy [.ref 68, .int x] M = some (some (.int (vG N m k x q).1), M') ∧ MT N m k M' (vG N m k x q).2 ∧ Mv M M' := by
  rw [ec12_givesBy, h.2.2.1]
  simp (disch := omega) only [nI_eq9]
  unfold vG
  by_cases c : k = 5
  · rw [if_pos c, if_pos c]
    obtain ⟨M1, a1, a2, a3⟩ := m_ran (d + 4) (nI 60) M q h
    rw [a1]
    simp only [Option.bind_some, Option.toList_some, Option.toList_none, List.cons_append, List.nil_append, bi_eq0, bi_eq1, bi_nem, if_true, if_false, ite_not, Classical.not_not, sg12_givesBy_14]
    obtain ⟨M2, b1, b2, b3⟩ := mv_po hk d (x + nI 1) M1 _ a2
    rw [b1]
    simp only [Option.bind_some, Option.toList_some, Option.toList_none, List.cons_append, List.nil_append, bi_eq0, bi_eq1, bi_nem, if_true, if_false, ite_not, Classical.not_not, sg12_givesBy_21]
    exact ⟨M2, rfl, b2, Mv_tr a3 b3⟩
  · rw [if_neg c, if_neg c]
    by_cases c3 : k = 2
    · rw [if_pos c3, if_pos c3]
      obtain ⟨M2, b1, b2, b3⟩ := mv_po hk d x M q h
      rw [b1]
      simp only [Option.bind_some, Option.toList_some, Option.toList_none, List.cons_append, List.nil_append, bi_eq0, bi_eq1, bi_nem, if_true, if_false, ite_not, Classical.not_not, sg12_givesBy_35, sg12_givesBy_43]
      exact ⟨M2, rfl, b2, b3⟩
    · rw [if_neg c3, if_neg c3]
      obtain ⟨M2, b1, b2, b3⟩ := mv_pG hk (d + 1) x M q h
      rw [b1]
      simp only [Option.bind_some, Option.toList_some, Option.toList_none, List.cons_append, List.nil_append, bi_eq0, bi_eq1, bi_nem, if_true, if_false, ite_not, Classical.not_not, sg12_givesBy_43]
      exact ⟨M2, rfl, b2, b3⟩
theorem mv_pL {N m : Int32} {k : Nat} (hk : k ≤ 6) (d : Nat) (x : Int32) (M : am_M) (q : tr_T) (h : MT N m k M q) : ∃ M', am_call (d + 7) i12_plainTells [.ref 68, .int x] M = some (some (.int (vpL N m k x q).1), M') ∧ MT N m k M' (vpL N m k x q).2 ∧ Mv M M' := by
  obtain ⟨M1, a1, a2, a3⟩ := m_ran (d + 5) (nI 13) M q h
  rw [ec12_plainTells, a1]
  simp only [Option.bind_some, Option.toList_some, Option.toList_none, List.cons_append, List.nil_append, bi_eq0, bi_eq1, bi_nem, if_true, if_false, ite_not, Classical.not_not, sg12_plainTells_6]
  obtain ⟨M2, b1, b2, b3⟩ := mv_G hk d x M1 _ a2
  rw [b1]
  simp only [Option.bind_some, Option.toList_some, Option.toList_none, List.cons_append, List.nil_append, bi_eq0, bi_eq1, bi_nem, if_true, if_false, ite_not, Classical.not_not, sg12_plainTells_11]
  obtain ⟨M3, e1, e2, e3⟩ := mv_T hk (d + 2) x M2 _ b2
  rw [e1]
  simp only [Option.bind_some, Option.toList_some, Option.toList_none, List.cons_append, List.nil_append, bi_eq0, bi_eq1, bi_nem, if_true, if_false, ite_not, Classical.not_not, sg12_plainTells_18]
  exact ⟨M3, rfl, e2, Mv_tr (Mv_tr a3 b3) e3⟩
theorem mv_L {N m : Int32} {k : Nat} (hk : k ≤ 6) (d : Nat) (x : Int32) (M : am_M) (q : tr_T) (h : MT N m k M q) : ∃ M', am_call (d + 8) i12_tellsBy [.ref 68, .int x] M = some (some (.int (vL N m k x q).1), M') ∧ MT N m k M' (vL N m k x q).2 ∧ Mv M M' := by
  rw [ec12_tellsBy, h.2.2.1]
  simp (disch := omega) only [nI_eq9]
  unfold vL
  by_cases c : k = 4
  · rw [if_pos c, if_pos c]
    obtain ⟨M1, a1, a2, a3⟩ := m_ran (d + 6) (nI 50) M q h
    rw [a1]
    simp only [Option.bind_some, Option.toList_some, Option.toList_none, List.cons_append, List.nil_append, bi_eq0, bi_eq1, bi_nem, if_true, if_false, ite_not, Classical.not_not, sg12_tellsBy_14]
    obtain ⟨M2, b1, b2, b3⟩ := mv_pL hk d x M1 _ a2
    rw [b1]
    simp only [Option.bind_some, Option.toList_some, Option.toList_none, List.cons_append, List.nil_append, bi_eq0, bi_eq1, bi_nem, if_true, if_false, ite_not, Classical.not_not, sg12_tellsBy_19]
    obtain ⟨M3, e1, e2, e3⟩ := mv_R hk (d + 4) (nI 2) M2 _ b2
    rw [e1]
    simp only [Option.bind_some, Option.toList_some, Option.toList_none, List.cons_append, List.nil_append, bi_eq0, bi_eq1, bi_nem, if_true, if_false, ite_not, Classical.not_not, sg12_tellsBy_26]
    exact ⟨M3, rfl, e2, Mv_tr (Mv_tr a3 b3) e3⟩
  · rw [if_neg c, if_neg c]
    by_cases c3 : k = 6
    · rw [if_pos c3, if_pos c3]
      obtain ⟨M1, a1, a2, a3⟩ := m_ran (d + 6) (nI 71) M q h
      rw [a1]
      simp only [Option.bind_some, Option.toList_some, Option.toList_none, List.cons_append, List.nil_append, bi_eq0, bi_eq1, bi_nem, if_true, if_false, ite_not, Classical.not_not, sg12_tellsBy_43]
      obtain ⟨M2, b1, b2, b3⟩ := mv_G hk (d + 1) x M1 _ a2
      rw [b1]
      simp only [Option.bind_some, Option.toList_some, Option.toList_none, List.cons_append, List.nil_append, bi_eq0, bi_eq1, bi_nem, if_true, if_false, ite_not, Classical.not_not, sg12_tellsBy_48]
      obtain ⟨M3, e1, e2, e3⟩ := mv_pL hk d x M2 _ b2
      rw [e1]
      simp only [Option.bind_some, Option.toList_some, Option.toList_none, List.cons_append, List.nil_append, bi_eq0, bi_eq1, bi_nem, if_true, if_false, ite_not, Classical.not_not, sg12_tellsBy_55]
      exact ⟨M3, rfl, e2, Mv_tr (Mv_tr a3 b3) e3⟩
    · rw [if_neg c3, if_neg c3]
      obtain ⟨M2, b1, b2, b3⟩ := mv_pL hk d x M q h
      rw [b1]
      simp only [Option.bind_some, Option.toList_some, Option.toList_none, List.cons_append, List.nil_append, bi_eq0, bi_eq1, bi_nem, if_true, if_false, ite_not, Classical.not_not, sg12_tellsBy_62]
      exact ⟨M2, rfl, b2, b3⟩
def vo (N m : Int32) (k a : Nat) (x : Int32) (q : tr_T) : vo_T := if a = 0 then vR N k x q else if a = 1 then vG N m k x q else if a = 2 then vT N m k x q else vL N m k x q
theorem c_act_0 {N m : Int32} (d a : Nat) (ha : a < 4) (x1 x : Int32) (M : am_M) (q : tr_T) (h : CT N m M q) : ∃ M', am_lim (am_call (d + 8)) (am_R i11_voice) (am_tx i11_voice) 48 [.ref 0, .int x1, .int (nI a), .int x, .null] [.ref 2] M = some (some (.int (vo N m 0 a x q).1), M') ∧ CT N m M' (vo N m 0 a x q).2 ∧ Cv M M' := by
  have h4 : a = 0 ∨ a = 1 ∨ a = 2 ∨ a = 3 := by omega
  rw [sg11_voice_k2_48]
  rcases h4 with rfl | rfl | rfl | rfl
  · obtain ⟨M1, a1, a2, a3⟩ := cv_R_0 (d + 5) x M q h
    rw [if_pos rfl]
    rw [a1]
    simp only [Option.bind_some, Option.toList_some, Option.toList_none, List.cons_append, List.nil_append, bi_eq0, bi_eq1, bi_nem, if_true, if_false, ite_not, Classical.not_not, sg11_voice_k2_86]
    unfold vo
    rw [if_pos rfl]
    exact ⟨M1, rfl, a2, a3⟩
  · obtain ⟨M1, a1, a2, a3⟩ := cv_G_0 (d + 2) x M q h
    simp (disch := omega) only [nI_eq9, Nat.reduceEqDiff, if_true, if_false]
    rw [a1]
    simp only [Option.bind_some, Option.toList_some, Option.toList_none, List.cons_append, List.nil_append, bi_eq0, bi_eq1, bi_nem, if_true, if_false, ite_not, Classical.not_not, sg11_voice_k2_97]
    unfold vo
    rw [if_neg (by decide), if_pos rfl]
    exact ⟨M1, rfl, a2, a3⟩
  · obtain ⟨M1, a1, a2, a3⟩ := cv_T_0 (d + 4) x M q h
    simp (disch := omega) only [nI_eq9, Nat.reduceEqDiff, if_true, if_false]
    rw [a1]
    simp only [Option.bind_some, Option.toList_some, Option.toList_none, List.cons_append, List.nil_append, bi_eq0, bi_eq1, bi_nem, if_true, if_false, ite_not, Classical.not_not, sg11_voice_k2_108]
    unfold vo
    rw [if_neg (by decide), if_neg (by decide), if_pos rfl]
    exact ⟨M1, rfl, a2, a3⟩
  · obtain ⟨M1, a1, a2, a3⟩ := cv_L_0 (d + 0) x M q h
    simp (disch := omega) only [nI_eq9, Nat.reduceEqDiff, if_true, if_false]
    rw [a1]
    simp only [Option.bind_some, Option.toList_some, Option.toList_none, List.cons_append, List.nil_append, bi_eq0, bi_eq1, bi_nem, if_true, if_false, ite_not, Classical.not_not, sg11_voice_k2_119]
    unfold vo
    rw [if_neg (by decide), if_neg (by decide), if_neg (by decide)]
    exact ⟨M1, rfl, a2, a3⟩
theorem c_act_1 {N m : Int32} (d a : Nat) (ha : a < 4) (x1 x : Int32) (M : am_M) (q : tr_T) (h : CT N m M q) : ∃ M', am_lim (am_call (d + 8)) (am_R i11_voice) (am_tx i11_voice) 48 [.ref 0, .int x1, .int (nI a), .int x, .null] [.ref 3] M = some (some (.int (vo N m 1 a x q).1), M') ∧ CT N m M' (vo N m 1 a x q).2 ∧ Cv M M' := by
  have h4 : a = 0 ∨ a = 1 ∨ a = 2 ∨ a = 3 := by omega
  rw [sg11_voice_k3_48]
  rcases h4 with rfl | rfl | rfl | rfl
  · obtain ⟨M1, a1, a2, a3⟩ := cv_R_1 (d + 5) x M q h
    rw [if_pos rfl]
    rw [a1]
    simp only [Option.bind_some, Option.toList_some, Option.toList_none, List.cons_append, List.nil_append, bi_eq0, bi_eq1, bi_nem, if_true, if_false, ite_not, Classical.not_not, sg11_voice_k3_86]
    unfold vo
    rw [if_pos rfl]
    exact ⟨M1, rfl, a2, a3⟩
  · obtain ⟨M1, a1, a2, a3⟩ := cv_G_1 (d + 2) x M q h
    simp (disch := omega) only [nI_eq9, Nat.reduceEqDiff, if_true, if_false]
    rw [a1]
    simp only [Option.bind_some, Option.toList_some, Option.toList_none, List.cons_append, List.nil_append, bi_eq0, bi_eq1, bi_nem, if_true, if_false, ite_not, Classical.not_not, sg11_voice_k3_97]
    unfold vo
    rw [if_neg (by decide), if_pos rfl]
    exact ⟨M1, rfl, a2, a3⟩
  · obtain ⟨M1, a1, a2, a3⟩ := cv_T_1 (d + 4) x M q h
    simp (disch := omega) only [nI_eq9, Nat.reduceEqDiff, if_true, if_false]
    rw [a1]
    simp only [Option.bind_some, Option.toList_some, Option.toList_none, List.cons_append, List.nil_append, bi_eq0, bi_eq1, bi_nem, if_true, if_false, ite_not, Classical.not_not, sg11_voice_k3_108]
    unfold vo
    rw [if_neg (by decide), if_neg (by decide), if_pos rfl]
    exact ⟨M1, rfl, a2, a3⟩
  · obtain ⟨M1, a1, a2, a3⟩ := cv_L_1 (d + 0) x M q h
    simp (disch := omega) only [nI_eq9, Nat.reduceEqDiff, if_true, if_false]
    rw [a1]
    simp only [Option.bind_some, Option.toList_some, Option.toList_none, List.cons_append, List.nil_append, bi_eq0, bi_eq1, bi_nem, if_true, if_false, ite_not, Classical.not_not, sg11_voice_k3_119]
    unfold vo
    rw [if_neg (by decide), if_neg (by decide), if_neg (by decide)]
    exact ⟨M1, rfl, a2, a3⟩
theorem c_act_2 {N m : Int32} (d a : Nat) (ha : a < 4) (x1 x : Int32) (M : am_M) (q : tr_T) (h : CT N m M q) : ∃ M', am_lim (am_call (d + 8)) (am_R i11_voice) (am_tx i11_voice) 48 [.ref 0, .int x1, .int (nI a), .int x, .null] [.ref 4] M = some (some (.int (vo N m 2 a x q).1), M') ∧ CT N m M' (vo N m 2 a x q).2 ∧ Cv M M' := by
  have h4 : a = 0 ∨ a = 1 ∨ a = 2 ∨ a = 3 := by omega
  rw [sg11_voice_k4_48]
  rcases h4 with rfl | rfl | rfl | rfl
  · obtain ⟨M1, a1, a2, a3⟩ := cv_R_2 (d + 5) x M q h
    rw [if_pos rfl]
    rw [a1]
    simp only [Option.bind_some, Option.toList_some, Option.toList_none, List.cons_append, List.nil_append, bi_eq0, bi_eq1, bi_nem, if_true, if_false, ite_not, Classical.not_not, sg11_voice_k4_86]
    unfold vo
    rw [if_pos rfl]
    exact ⟨M1, rfl, a2, a3⟩
  · obtain ⟨M1, a1, a2, a3⟩ := cv_G_2 (d + 2) x M q h
    simp (disch := omega) only [nI_eq9, Nat.reduceEqDiff, if_true, if_false]
    rw [a1]
    simp only [Option.bind_some, Option.toList_some, Option.toList_none, List.cons_append, List.nil_append, bi_eq0, bi_eq1, bi_nem, if_true, if_false, ite_not, Classical.not_not, sg11_voice_k4_97]
    unfold vo
    rw [if_neg (by decide), if_pos rfl]
    exact ⟨M1, rfl, a2, a3⟩
  · obtain ⟨M1, a1, a2, a3⟩ := cv_T_2 (d + 4) x M q h
    simp (disch := omega) only [nI_eq9, Nat.reduceEqDiff, if_true, if_false]
    rw [a1]
    simp only [Option.bind_some, Option.toList_some, Option.toList_none, List.cons_append, List.nil_append, bi_eq0, bi_eq1, bi_nem, if_true, if_false, ite_not, Classical.not_not, sg11_voice_k4_108]
    unfold vo
    rw [if_neg (by decide), if_neg (by decide), if_pos rfl]
    exact ⟨M1, rfl, a2, a3⟩
  · obtain ⟨M1, a1, a2, a3⟩ := cv_L_2 (d + 0) x M q h
    simp (disch := omega) only [nI_eq9, Nat.reduceEqDiff, if_true, if_false]
    rw [a1]
    simp only [Option.bind_some, Option.toList_some, Option.toList_none, List.cons_append, List.nil_append, bi_eq0, bi_eq1, bi_nem, if_true, if_false, ite_not, Classical.not_not, sg11_voice_k4_119]
    unfold vo
    rw [if_neg (by decide), if_neg (by decide), if_neg (by decide)]
    exact ⟨M1, rfl, a2, a3⟩
theorem c_act_3 {N m : Int32} (d a : Nat) (ha : a < 4) (x1 x : Int32) (M : am_M) (q : tr_T) (h : CT N m M q) : ∃ M', am_lim (am_call (d + 8)) (am_R i11_voice) (am_tx i11_voice) 48 [.ref 0, .int x1, .int (nI a), .int x, .null] [.ref 5] M = some (some (.int (vo N m 3 a x q).1), M') ∧ CT N m M' (vo N m 3 a x q).2 ∧ Cv M M' := by
  have h4 : a = 0 ∨ a = 1 ∨ a = 2 ∨ a = 3 := by omega
  rw [sg11_voice_k5_48]
  rcases h4 with rfl | rfl | rfl | rfl
  · obtain ⟨M1, a1, a2, a3⟩ := cv_R_3 (d + 5) x M q h
    rw [if_pos rfl]
    rw [a1]
    simp only [Option.bind_some, Option.toList_some, Option.toList_none, List.cons_append, List.nil_append, bi_eq0, bi_eq1, bi_nem, if_true, if_false, ite_not, Classical.not_not, sg11_voice_k5_86]
    unfold vo
    rw [if_pos rfl]
    exact ⟨M1, rfl, a2, a3⟩
  · obtain ⟨M1, a1, a2, a3⟩ := cv_G_3 (d + 2) x M q h
    simp (disch := omega) only [nI_eq9, Nat.reduceEqDiff, if_true, if_false]
    rw [a1]
    simp only [Option.bind_some, Option.toList_some, Option.toList_none, List.cons_append, List.nil_append, bi_eq0, bi_eq1, bi_nem, if_true, if_false, ite_not, Classical.not_not, sg11_voice_k5_97]
    unfold vo
    rw [if_neg (by decide), if_pos rfl]
    exact ⟨M1, rfl, a2, a3⟩
  · obtain ⟨M1, a1, a2, a3⟩ := cv_T_3 (d + 4) x M q h
    simp (disch := omega) only [nI_eq9, Nat.reduceEqDiff, if_true, if_false]
    rw [a1]
    simp only [Option.bind_some, Option.toList_some, Option.toList_none, List.cons_append, List.nil_append, bi_eq0, bi_eq1, bi_nem, if_true, if_false, ite_not, Classical.not_not, sg11_voice_k5_108]
    unfold vo
    rw [if_neg (by decide), if_neg (by decide), if_pos rfl]
    exact ⟨M1, rfl, a2, a3⟩
  · obtain ⟨M1, a1, a2, a3⟩ := cv_L_3 (d + 0) x M q h
    simp (disch := omega) only [nI_eq9, Nat.reduceEqDiff, if_true, if_false]
    rw [a1]
    simp only [Option.bind_some, Option.toList_some, Option.toList_none, List.cons_append, List.nil_append, bi_eq0, bi_eq1, bi_nem, if_true, if_false, ite_not, Classical.not_not, sg11_voice_k5_119]
    unfold vo
    rw [if_neg (by decide), if_neg (by decide), if_neg (by decide)]
    exact ⟨M1, rfl, a2, a3⟩
theorem c_act_4 {N m : Int32} (d a : Nat) (ha : a < 4) (x1 x : Int32) (M : am_M) (q : tr_T) (h : CT N m M q) : ∃ M', am_lim (am_call (d + 8)) (am_R i11_voice) (am_tx i11_voice) 48 [.ref 0, .int x1, .int (nI a), .int x, .null] [.ref 6] M = some (some (.int (vo N m 4 a x q).1), M') ∧ CT N m M' (vo N m 4 a x q).2 ∧ Cv M M' := by
  have h4 : a = 0 ∨ a = 1 ∨ a = 2 ∨ a = 3 := by omega
  rw [sg11_voice_k6_48]
  rcases h4 with rfl | rfl | rfl | rfl
  · obtain ⟨M1, a1, a2, a3⟩ := cv_R_4 (d + 5) x M q h
    rw [if_pos rfl]
    rw [a1]
    simp only [Option.bind_some, Option.toList_some, Option.toList_none, List.cons_append, List.nil_append, bi_eq0, bi_eq1, bi_nem, if_true, if_false, ite_not, Classical.not_not, sg11_voice_k6_86]
    unfold vo
    rw [if_pos rfl]
    exact ⟨M1, rfl, a2, a3⟩
  · obtain ⟨M1, a1, a2, a3⟩ := cv_G_4 (d + 2) x M q h
    simp (disch := omega) only [nI_eq9, Nat.reduceEqDiff, if_true, if_false]
    rw [a1]
    simp only [Option.bind_some, Option.toList_some, Option.toList_none, List.cons_append, List.nil_append, bi_eq0, bi_eq1, bi_nem, if_true, if_false, ite_not, Classical.not_not, sg11_voice_k6_97]
    unfold vo
    rw [if_neg (by decide), if_pos rfl]
    exact ⟨M1, rfl, a2, a3⟩
  · obtain ⟨M1, a1, a2, a3⟩ := cv_T_4 (d + 4) x M q h
    simp (disch := omega) only [nI_eq9, Nat.reduceEqDiff, if_true, if_false]
    rw [a1]
    simp only [Option.bind_some, Option.toList_some, Option.toList_none, List.cons_append, List.nil_append, bi_eq0, bi_eq1, bi_nem, if_true, if_false, ite_not, Classical.not_not, sg11_voice_k6_108]
    unfold vo
    rw [if_neg (by decide), if_neg (by decide), if_pos rfl]
    exact ⟨M1, rfl, a2, a3⟩
  · obtain ⟨M1, a1, a2, a3⟩ := cv_L_4 (d + 0) x M q h
    simp (disch := omega) only [nI_eq9, Nat.reduceEqDiff, if_true, if_false]
    rw [a1]
    simp only [Option.bind_some, Option.toList_some, Option.toList_none, List.cons_append, List.nil_append, bi_eq0, bi_eq1, bi_nem, if_true, if_false, ite_not, Classical.not_not, sg11_voice_k6_119]
    unfold vo
    rw [if_neg (by decide), if_neg (by decide), if_neg (by decide)]
    exact ⟨M1, rfl, a2, a3⟩
theorem c_act_5 {N m : Int32} (d a : Nat) (ha : a < 4) (x1 x : Int32) (M : am_M) (q : tr_T) (h : CT N m M q) : ∃ M', am_lim (am_call (d + 8)) (am_R i11_voice) (am_tx i11_voice) 48 [.ref 0, .int x1, .int (nI a), .int x, .null] [.ref 7] M = some (some (.int (vo N m 5 a x q).1), M') ∧ CT N m M' (vo N m 5 a x q).2 ∧ Cv M M' := by
  have h4 : a = 0 ∨ a = 1 ∨ a = 2 ∨ a = 3 := by omega
  rw [sg11_voice_k7_48]
  rcases h4 with rfl | rfl | rfl | rfl
  · obtain ⟨M1, a1, a2, a3⟩ := cv_R_5 (d + 5) x M q h
    rw [if_pos rfl]
    rw [a1]
    simp only [Option.bind_some, Option.toList_some, Option.toList_none, List.cons_append, List.nil_append, bi_eq0, bi_eq1, bi_nem, if_true, if_false, ite_not, Classical.not_not, sg11_voice_k7_86]
    unfold vo
    rw [if_pos rfl]
    exact ⟨M1, rfl, a2, a3⟩
  · obtain ⟨M1, a1, a2, a3⟩ := cv_G_5 (d + 2) x M q h
    simp (disch := omega) only [nI_eq9, Nat.reduceEqDiff, if_true, if_false]
    rw [a1]
    simp only [Option.bind_some, Option.toList_some, Option.toList_none, List.cons_append, List.nil_append, bi_eq0, bi_eq1, bi_nem, if_true, if_false, ite_not, Classical.not_not, sg11_voice_k7_97]
    unfold vo
    rw [if_neg (by decide), if_pos rfl]
    exact ⟨M1, rfl, a2, a3⟩
  · obtain ⟨M1, a1, a2, a3⟩ := cv_T_5 (d + 4) x M q h
    simp (disch := omega) only [nI_eq9, Nat.reduceEqDiff, if_true, if_false]
    rw [a1]
    simp only [Option.bind_some, Option.toList_some, Option.toList_none, List.cons_append, List.nil_append, bi_eq0, bi_eq1, bi_nem, if_true, if_false, ite_not, Classical.not_not, sg11_voice_k7_108]
    unfold vo
    rw [if_neg (by decide), if_neg (by decide), if_pos rfl]
    exact ⟨M1, rfl, a2, a3⟩
  · obtain ⟨M1, a1, a2, a3⟩ := cv_L_5 (d + 0) x M q h
    simp (disch := omega) only [nI_eq9, Nat.reduceEqDiff, if_true, if_false]
    rw [a1]
    simp only [Option.bind_some, Option.toList_some, Option.toList_none, List.cons_append, List.nil_append, bi_eq0, bi_eq1, bi_nem, if_true, if_false, ite_not, Classical.not_not, sg11_voice_k7_119]
    unfold vo
    rw [if_neg (by decide), if_neg (by decide), if_neg (by decide)]
    exact ⟨M1, rfl, a2, a3⟩
theorem c_act_6 {N m : Int32} (d a : Nat) (ha : a < 4) (x1 x : Int32) (M : am_M) (q : tr_T) (h : CT N m M q) : ∃ M', am_lim (am_call (d + 8)) (am_R i11_voice) (am_tx i11_voice) 48 [.ref 0, .int x1, .int (nI a), .int x, .null] [.ref 8] M = some (some (.int (vo N m 6 a x q).1), M') ∧ CT N m M' (vo N m 6 a x q).2 ∧ Cv M M' := by
  have h4 : a = 0 ∨ a = 1 ∨ a = 2 ∨ a = 3 := by omega
  rw [sg11_voice_k8_48]
  rcases h4 with rfl | rfl | rfl | rfl
  · obtain ⟨M1, a1, a2, a3⟩ := cv_R_6 (d + 5) x M q h
    rw [if_pos rfl]
    rw [a1]
    simp only [Option.bind_some, Option.toList_some, Option.toList_none, List.cons_append, List.nil_append, bi_eq0, bi_eq1, bi_nem, if_true, if_false, ite_not, Classical.not_not, sg11_voice_k8_86]
    unfold vo
    rw [if_pos rfl]
    exact ⟨M1, rfl, a2, a3⟩
  · obtain ⟨M1, a1, a2, a3⟩ := cv_G_6 (d + 2) x M q h
    simp (disch := omega) only [nI_eq9, Nat.reduceEqDiff, if_true, if_false]
    rw [a1]
    simp only [Option.bind_some, Option.toList_some, Option.toList_none, List.cons_append, List.nil_append, bi_eq0, bi_eq1, bi_nem, if_true, if_false, ite_not, Classical.not_not, sg11_voice_k8_97]
    unfold vo
    rw [if_neg (by decide), if_pos rfl]
    exact ⟨M1, rfl, a2, a3⟩
  · obtain ⟨M1, a1, a2, a3⟩ := cv_T_6 (d + 4) x M q h
    simp (disch := omega) only [nI_eq9, Nat.reduceEqDiff, if_true, if_false]
    rw [a1]
    simp only [Option.bind_some, Option.toList_some, Option.toList_none, List.cons_append, List.nil_append, bi_eq0, bi_eq1, bi_nem, if_true, if_false, ite_not, Classical.not_not, sg11_voice_k8_108]
    unfold vo
    rw [if_neg (by decide), if_neg (by decide), if_pos rfl]
    exact ⟨M1, rfl, a2, a3⟩
  · obtain ⟨M1, a1, a2, a3⟩ := cv_L_6 (d + 0) x M q h
    simp (disch := omega) only [nI_eq9, Nat.reduceEqDiff, if_true, if_false]
    rw [a1]
    simp only [Option.bind_some, Option.toList_some, Option.toList_none, List.cons_append, List.nil_append, bi_eq0, bi_eq1, bi_nem, if_true, if_false, ite_not, Classical.not_not, sg11_voice_k8_119]
    unfold vo
    rw [if_neg (by decide), if_neg (by decide), if_neg (by decide)]
    exact ⟨M1, rfl, a2, a3⟩
theorem m_act {N m : Int32} {k : Nat} (hk : k ≤ 6) (d a : Nat) (ha : a < 4) (x1 x r : Int32) (M : am_M) (q : tr_T) (h : MT N m k (am_up M 68 22 r) q) : ∃ M', am_lim (am_call (d + 8)) (am_R i12_voice) (am_tx i12_voice) 54 [.ref 68, .int x1, .int (nI a), .int x] [.int r, .ref 68] M = some (some (.int (vo N m k a x q).1), M') ∧ MT N m k M' (vo N m k a x q).2 ∧ Mv (am_up M 68 22 r) M' := by
  have h4 : a = 0 ∨ a = 1 ∨ a = 2 ∨ a = 3 := by omega
  rw [sg12_voice_54]
  rcases h4 with rfl | rfl | rfl | rfl
  · obtain ⟨M1, a1, a2, a3⟩ := mv_R hk (d + 5) x _ q h
    rw [if_pos nI_0, a1]
    simp only [Option.bind_some, Option.toList_some, Option.toList_none, List.cons_append, List.nil_append, bi_eq0, bi_eq1, bi_nem, if_true, if_false, ite_not, Classical.not_not, sg12_voice_66, sg12_voice_100]
    unfold vo
    rw [if_pos rfl]
    exact ⟨M1, rfl, a2, a3⟩
  · obtain ⟨M1, a1, a2, a3⟩ := mv_G hk (d + 2) x _ q h
    rw [if_neg (by decide +kernel), if_pos rfl, a1]
    simp only [Option.bind_some, Option.toList_some, Option.toList_none, List.cons_append, List.nil_append, bi_eq0, bi_eq1, bi_nem, if_true, if_false, ite_not, Classical.not_not, sg12_voice_79, sg12_voice_100]
    unfold vo
    rw [if_neg (by decide), if_pos rfl]
    exact ⟨M1, rfl, a2, a3⟩
  · obtain ⟨M1, a1, a2, a3⟩ := mv_T hk (d + 4) x _ q h
    rw [if_neg (by decide +kernel), if_neg (by decide +kernel), if_pos rfl, a1]
    simp only [Option.bind_some, Option.toList_some, Option.toList_none, List.cons_append, List.nil_append, bi_eq0, bi_eq1, bi_nem, if_true, if_false, ite_not, Classical.not_not, sg12_voice_92, sg12_voice_100]
    unfold vo
    rw [if_neg (by decide), if_neg (by decide), if_pos rfl]
    exact ⟨M1, rfl, a2, a3⟩
  · obtain ⟨M1, a1, a2, a3⟩ := mv_L hk d x _ q h
    rw [if_neg (by decide +kernel), if_neg (by decide +kernel), if_neg (by decide +kernel), a1]
    simp only [Option.bind_some, Option.toList_some, Option.toList_none, List.cons_append, List.nil_append, bi_eq0, bi_eq1, bi_nem, if_true, if_false, ite_not, Classical.not_not, sg12_voice_100]
    unfold vo
    rw [if_neg (by decide), if_neg (by decide), if_neg (by decide)]
    exact ⟨M1, rfl, a2, a3⟩
theorem c_act {N m : Int32} {k : Nat} (hk : k ≤ 6) (d a : Nat) (ha : a < 4) (x1 x : Int32) (M : am_M) (q : tr_T) (h : CT N m M q) : ∃ M', am_lim (am_call (d + 8)) (am_R i11_voice) (am_tx i11_voice) 48 [.ref 0, .int x1, .int (nI a), .int x, .null] [.ref (2 + k)] M = some (some (.int (vo N m k a x q).1), M') ∧ CT N m M' (vo N m k a x q).2 ∧ Cv M M' := by
  rcases k_cases hk with rfl | rfl | rfl | rfl | rfl | rfl | rfl
  · exact c_act_0 d a ha x1 x M q h
  · exact c_act_1 d a ha x1 x M q h
  · exact c_act_2 d a ha x1 x M q h
  · exact c_act_3 d a ha x1 x M q h
  · exact c_act_4 d a ha x1 x M q h
  · exact c_act_5 d a ha x1 x M q h
  · exact c_act_6 d a ha x1 x M q h
theorem IV_V {M M2 : am_M} (hI : IV M M) (hJ : ∀ a, a ∉ [58, 59, 77] → a ≠ 68 → M2 a = M a) (h4 : M2 68 4 = M 68 4) (hS : SP M2 M2) : IV M2 M2 := by
  obtain ⟨i1, i2, i3, i4, i5, i6⟩ := hI
  refine ⟨?_, ?_, ?_, ?_, hS, fun h hh => ?_⟩
  · rw [hJ 69 (by decide) (by decide)]
    exact RA_ch i1 (fun a ha => hJ a (by revert a; decide) (by revert a; decide))
  · rw [hJ 0 (by decide) (by decide), h4]; exact i2
  · rw [hJ 0 (by decide) (by decide), hJ 70 (by decide) (by decide)]
    exact i3.imp id (fun z => RA_ch z (fun a ha => hJ a (by revert a; decide) (by revert a; decide)))
  · rw [hJ 67 (by decide) (by decide), hJ 72 (by decide) (by decide)]; exact i4
  · have hm : ∀ h, h < 4 → 63 + h ∉ [58, 59, 77] ∧ 63 + h ≠ 68 := by decide
    rw [hJ 60 (by decide) (by decide), hJ 61 (by decide) (by decide), hJ (63 + h) (hm h hh).1 (hm h hh).2, hJ 78 (by decide) (by decide), hJ 79 (by decide) (by decide), hJ 80 (by decide) (by decide)]
    exact i6 h hh
theorem po_voice (d : Nat) (b a x : Int32) (M : am_M) (hI : IV M M) : PO d i11_voice i12_voice [.int b, .int a, .int x] M := by
  obtain ⟨nb, ng, hW, hg, hR, hD⟩ := hI.1
  have hn := hW.2.1
  have h7 : M 9 7 = nI nb := hR.1.trans hW.1
  have h8 : M 9 8 = nI ng := hR.2.1.trans hW.2.2.1
  have cB : ∀ (d' : Nat) (x : Int32) (N : am_M), N 9 7 = M 9 7 → am_call (d' + 2) i11_isBook [.ref 0, .int x] N = some (some (.int (bi (0 ≤ x.toInt ∧ x.toInt < nb))), N) := fun d' x N h => c_isBook d' x N nb (h.trans h7) hn
  have cP : ∀ (d' : Nat) (x : Int32) (N : am_M), N 9 7 = M 9 7 → am_call (d' + 2) i11_isPlace [.ref 0, .int x] N = some (some (.int (bi (0 ≤ x.toInt ∧ x.toInt < nb))), N) := fun d' x N h => c_isPlace d' x N nb (h.trans h7) hn
  have cPB : ∀ (d' : Nat) (x y : Int32) (N : am_M), N 9 7 = M 9 7 → am_call (d' + 3) i11_isPageOfBook [.ref 0, .int x, .int y] N = some (some (.int (bi ((0 ≤ x.toInt ∧ x.toInt < nb) ∧ 0 ≤ y.toInt ∧ y.toInt < 6))), N) := fun d' x y N h => c_isPageOfBook d' x y N nb (h.trans h7) hn
  have mB : ∀ (d' : Nat) (x : Int32) (N : am_M), N 69 = M 69 → am_call (d' + 2) i12_isBook [.ref 68, .int x] N = some (some (.int (bi (0 ≤ x.toInt ∧ x.toInt < nb))), N) := fun d' x N h => m_isBook d' x N nb (by rw [h]; exact hW.1) hn
  have cM4 : ∀ (d' : Nat) (x : Int32) (N : am_M), am_call (d' + 1) i11_isWithin [.int x, .int (nI 0), .int (nI 3)] N = some (some (.int (bi (0 ≤ x.toInt ∧ x.toInt < 4))), N) := fun d' x N => (cW d' x 0 3 N (by omega) (by omega)).trans (bi_out (by omega))
  have mM4 : ∀ (d' : Nat) (x : Int32) (N : am_M), am_call (d' + 1) i12_in [.long x.toInt64, .long (lN 0), .long (lN 3)] N = some (some (.int (bi (0 ≤ x.toInt ∧ x.toInt < 4))), N) := fun d' x N => (mW d' x 0 3 N (by omega) (by omega)).trans (bi_out (by omega))
  by_cases hb : 0 ≤ b.toInt ∧ b.toInt < nb
  · by_cases ha : 0 ≤ a.toInt ∧ a.toInt < 4
    · obtain ⟨b', hb', rfl⟩ := i32_of (n := nb) hb.1 hb.2 (by omega)
      obtain ⟨a', ha', rfl⟩ := i32_of (n := 4) ha.1 ha.2 (by omega)
      obtain ⟨⟨k', k1, k2⟩, ⟨m, m1, m2⟩, -, -⟩ := hW.2.2.2.1 b' hb'
      obtain ⟨r1, r2, -, -⟩ := hR.2.2.1 b' hb'
      have hCT : CT (nI b') (nI m) (am_up (am_up (am_up M 58 2 (nI b')) 58 3 (nI m)) 58 1 (nI 0)) (0, fun _ => 0) := by
        refine ⟨by show 0 ≤ 40; omega, au_s, ?_, ?_, fun i hi => absurd hi (by show ¬ i < 0; omega)⟩
        · rw [au_j (by decide), au_j (by decide), au_s]
        · rw [au_j (by decide), au_s]
      have hCv0 : Cv M (am_up (am_up (am_up M 58 2 (nI b')) 58 3 (nI m)) 58 1 (nI 0)) := Ch_tr (Ch_tr (Ch_up (by decide)) (Ch_up (by decide))) (Ch_up (by decide))
      have hrk : am_up (am_up (am_up M 58 2 (nI b')) 58 3 (nI m)) 58 1 (nI 0) 10 b' = nI k' := by rw [hCv0 10 (by decide)]; exact r1.trans k2
      generalize hMb : am_up (am_up (am_up M 58 2 (nI b')) 58 3 (nI m)) 58 1 (nI 0) = Mb at hCT hCv0 hrk
      obtain ⟨M1, a1, a2, a3⟩ := c_act k1 (d + 51) a' ha' (nI b') x Mb (0, fun _ => 0) hCT
      have hCv : Cv M M1 := Cv_tr hCv0 a3
      have f69 : M1 69 = M 69 := hCv 69 (by decide)
      have f68 : M1 68 = M 68 := hCv 68 (by decide)
      have hMT : MT (nI b') (nI m) k' (am_up (am_up (am_up (am_up M1 68 19 (nI 0)) 68 20 (nI k')) 68 21 (nI b')) 68 22 (nI m)) (0, fun _ => 0) := by
        refine ⟨by show 0 ≤ 40; omega, ?_, ?_, ?_, au_s, fun i hi => absurd hi (by show ¬ i < 0; omega)⟩
        · rw [au_j (by decide), au_j (by decide), au_j (by decide), au_s]
        · rw [au_j (by decide), au_j (by decide), au_s]
        · rw [au_j (by decide), au_s]
      obtain ⟨M2, q1, q2, q3⟩ := m_act k1 (d + 51) a' ha' (nI b') x (nI m) (am_up (am_up (am_up M1 68 19 (nI 0)) 68 20 (nI k')) 68 21 (nI b')) (0, fun _ => 0) hMT
      have g : ∀ y, y ≠ 68 → y ≠ 77 → M2 y = M1 y := fun y h1 h2 => by
        rw [q3.1 y h1 h2, au_b h1, au_b h1, au_b h1, au_b h1]
      have h4 : M2 68 4 = M 68 4 := by
        rw [q3.2 4 (by omega), au_j (by decide), au_j (by decide), au_j (by decide), au_j (by decide), f68]
      refine ⟨(vo (nI b') (nI m) k' a' x (0, fun _ => 0)).1, M1, M2, ?_, ?_, IV_V hI (fun y h1 h2 => (g y h2 (by simp at h1; exact h1.2.2)).trans (hCv y (by simp at h1 ⊢; exact ⟨h1.1, h1.2.1⟩))) h4 ⟨_, a2.1, ?_, q2.2.1, fun i hi => ?_⟩⟩
      · rw [ec11_voice_k2, cB _ _ _ rfl]
        simp only [Option.bind_some, Option.toList_some, Option.toList_none, List.cons_append, List.nil_append, bi_eq0, bi_eq1, bi_nem, if_true, if_false, ite_not, Classical.not_not, sg11_voice_k2_5]
        rw [if_pos (hb), cM4]
        simp only [Option.bind_some, Option.toList_some, Option.toList_none, List.cons_append, List.nil_append, bi_eq0, bi_eq1, bi_nem, if_true, if_false, ite_not, Classical.not_not, sg11_voice_k2_14]
        rw [if_pos (ha)]
        simp (disch := omega) only [nI_clamp, nI_in9, if_false]
        rw [show M 11 b' = nI m from r2.trans m2, ec9_begin, hMb]
        simp only [Option.bind_some, Option.toList_some, Option.toList_none, List.cons_append, List.nil_append, bi_eq0, bi_eq1, bi_nem, if_true, if_false, ite_not, Classical.not_not, sg11_voice_k2_40]
        rw [c_kindOf _ 9 (by omega) b' k' Mb (by omega) k1 hrk]
        simp only [Option.bind_some, Option.toList_some, Option.toList_none, List.cons_append, List.nil_append, bi_eq0, bi_eq1, bi_nem, if_true, if_false, ite_not, Classical.not_not]
        exact a1
      · rw [ec12_voice, mB _ _ _ f69]
        simp only [Option.bind_some, Option.toList_some, Option.toList_none, List.cons_append, List.nil_append, bi_eq0, bi_eq1, bi_nem, if_true, if_false, ite_not, Classical.not_not, sg12_voice_5]
        rw [if_pos (hb), mM4]
        simp only [Option.bind_some, Option.toList_some, Option.toList_none, List.cons_append, List.nil_append, bi_eq0, bi_eq1, bi_nem, if_true, if_false, ite_not, Classical.not_not, sg12_voice_17]
        rw [if_pos (ha), m_its _ b' 0 _ (by omega), au_b (by decide), f69]
        simp only [Option.bind_some, Option.toList_some, Option.toList_none, List.cons_append, List.nil_append, bi_eq0, bi_eq1, bi_nem, if_true, if_false, ite_not, Classical.not_not, sg12_voice_39, Nat.add_zero]
        rw [k2, m_its _ b' 1 _ (by omega), au_b (by decide), au_b (by decide), au_b (by decide), f69]
        simp only [Option.bind_some, Option.toList_some, Option.toList_none, List.cons_append, List.nil_append, bi_eq0, bi_eq1, bi_nem, if_true, if_false, ite_not, Classical.not_not]
        rw [m2]
        exact q1
      · rw [g 58 (by decide) (by decide)]; exact a2.2.1
      · rw [g 59 (by decide) (by decide), a2.2.2.2.2 i hi, q2.2.2.2.2.2 i hi]
    · refine PO_e (k := 1) hI (M1 := M) ?_ Ch_rf ⟨eC M 1, ?_, J6_rf⟩
      · rw [ec11_voice_k2, cB _ _ _ rfl]
        simp only [Option.bind_some, Option.toList_some, Option.toList_none, List.cons_append, List.nil_append, bi_eq0, bi_eq1, bi_nem, if_true, if_false, ite_not, Classical.not_not, sg11_voice_k2_5]
        rw [if_pos (hb), cM4]
        simp only [Option.bind_some, Option.toList_some, Option.toList_none, List.cons_append, List.nil_append, bi_eq0, bi_eq1, bi_nem, if_true, if_false, ite_not, Classical.not_not, sg11_voice_k2_14]
        rw [if_neg (ha), ce _ 1 _ (by omega)]
        simp only [Option.bind_some, Option.toList_some, Option.toList_none, List.cons_append, List.nil_append, bi_eq0, bi_eq1, bi_nem, if_true, if_false, ite_not, Classical.not_not, sg11_voice_k2_22]
      · rw [ec12_voice, mB _ _ _ (eC_b (by decide))]
        simp only [Option.bind_some, Option.toList_some, Option.toList_none, List.cons_append, List.nil_append, bi_eq0, bi_eq1, bi_nem, if_true, if_false, ite_not, Classical.not_not, sg12_voice_5]
        rw [if_pos (hb), mM4]
        simp only [Option.bind_some, Option.toList_some, Option.toList_none, List.cons_append, List.nil_append, bi_eq0, bi_eq1, bi_nem, if_true, if_false, ite_not, Classical.not_not, sg12_voice_17]
        rw [if_neg (ha), me1]
        simp only [Option.bind_some, Option.toList_some, Option.toList_none, List.cons_append, List.nil_append, bi_eq0, bi_eq1, bi_nem, if_true, if_false, ite_not, Classical.not_not, sg12_voice_26]
  · refine PO_e (k := 1) hI (M1 := M) ?_ Ch_rf ⟨eC M 1, ?_, J6_rf⟩
    · rw [ec11_voice_k2, cB _ _ _ rfl]
      simp only [Option.bind_some, Option.toList_some, Option.toList_none, List.cons_append, List.nil_append, bi_eq0, bi_eq1, bi_nem, if_true, if_false, ite_not, Classical.not_not, sg11_voice_k2_5]
      rw [if_neg (hb), ce _ 1 _ (by omega)]
      simp only [Option.bind_some, Option.toList_some, Option.toList_none, List.cons_append, List.nil_append, bi_eq0, bi_eq1, bi_nem, if_true, if_false, ite_not, Classical.not_not, sg11_voice_k2_22]
    · rw [ec12_voice, mB _ _ _ (eC_b (by decide))]
      simp only [Option.bind_some, Option.toList_some, Option.toList_none, List.cons_append, List.nil_append, bi_eq0, bi_eq1, bi_nem, if_true, if_false, ite_not, Classical.not_not, sg12_voice_5]
      rw [if_neg (hb), me1]
      simp only [Option.bind_some, Option.toList_some, Option.toList_none, List.cons_append, List.nil_append, bi_eq0, bi_eq1, bi_nem, if_true, if_false, ite_not, Classical.not_not, sg12_voice_26]
