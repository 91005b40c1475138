/-! TEXTS: the class's methods, the whole reading -/
theorem nI_one : nI 1 = 1 := by decide +kernel
theorem CR_F {M M0 : am_M} {r : am_Res} {os : Option sy_S} (h0 : F3 M0 M) (h : CR M r os) : CR M0 r os := by
  cases os with
  | none => obtain ⟨M', a, b⟩ := h; exact ⟨M', a, F3_tr h0 b⟩
  | some s => obtain ⟨M', a, b, c⟩ := h; exact ⟨M', a, b, F3_tr h0 c⟩
theorem sta_nm (use : Nat) (hu : use ≤ 1) (i : Nat) (hi : i < 3) (c : Int32) : (am_sta 1001 (3 * use + i) = c) = (c = nI (if use = 0 then (if i = 0 then 111 else if i = 1 then 108 else 114) else (if i = 0 then 97 else if i = 1 then 112 else 110))) := by
  have key : ∀ use, use ≤ 1 → ∀ i, i < 3 → am_sta 1001 (3 * use + i) = nI (if use = 0 then (if i = 0 then 111 else if i = 1 then 108 else 114) else (if i = 0 then 97 else if i = 1 then 112 else 110)) := by decide +kernel
  rw [key use hu i hi]
  exact propext ⟨Eq.symm, Eq.symm⟩
theorem c_names (d : Nat) (cs st : List Int32) (o : Nat) (c : Int32) (use : Nat) (hu : use ≤ 1) (M : am_M) (h : TS M (cs, st, o, 0, false)) (hl : cs.length < 50) : CR M (am_lim (am_call (d + 1)) (am_R i10_beginsQ) (am_tx i10_beginsQ) 80 [.ref 52, .int c, .int (nI use), .int (nI 0)] [] M) (if 0 < nmx use c then some (cs ++ [-(nI (nmx use c))], st, o, 0, false) else none) := by
  have step : ∀ i, i < 3 → am_lim (am_call (d + 1)) (am_R i10_beginsQ) (am_tx i10_beginsQ) 80 [.ref 52, .int c, .int (nI use), .int (nI i)] [] M = if c = nI (if use = 0 then (if i = 0 then 111 else if i = 1 then 108 else 114) else (if i = 0 then 97 else if i = 1 then 112 else 110)) then (am_call (d + 1) i10_add [.ref 52, .int (am_k (-1) - nI i)] M).bind (fun q => am_lim (am_call (d + 1)) (am_R i10_beginsQ) (am_tx i10_beginsQ) 105 [.ref 52, .int c, .int (nI use), .int (nI i)] (q.1.toList ++ []) q.2) else am_lim (am_call (d + 1)) (am_R i10_beginsQ) (am_tx i10_beginsQ) 80 [.ref 52, .int c, .int (nI use), .int (nI (i + 1))] [] M := by
    intro i hi
    rw [sg10_beginsQ_80]
    simp (disch := omega) only [false_or, nle9, nI_dec9, nI_add, pk_mul, pk_sub, nI_clamp, nI_in9, nI_pos9, nI_lt9, nI_le9, nI_eq9, nI_eq09, nI_le09, am_k_m1, if_true, if_false, ite_not, Classical.not_not]
    rw [if_pos hi]
    simp only [sta_nm use hu i hi]
  have last : am_lim (am_call (d + 1)) (am_R i10_beginsQ) (am_tx i10_beginsQ) 80 [.ref 52, .int c, .int (nI use), .int (nI 3)] [] M = some (some (.int (nI 0)), M) := by
    rw [sg10_beginsQ_80]
    simp (disch := omega) only [false_or, nle9, nI_dec9, nI_add, pk_mul, pk_sub, nI_clamp, nI_in9, nI_pos9, nI_lt9, nI_le9, nI_eq9, nI_eq09, nI_le09, am_k_m1, if_true, if_false, ite_not, Classical.not_not]
    rw [if_neg (by omega)]
  have hit : ∀ i, i < 3 → (am_call (d + 1) i10_add [.ref 52, .int (am_k (-1) - nI i)] M).bind (fun q => am_lim (am_call (d + 1)) (am_R i10_beginsQ) (am_tx i10_beginsQ) 105 [.ref 52, .int c, .int (nI use), .int (nI i)] (q.1.toList ++ []) q.2) = (am_call (d + 1) i10_add [.ref 52, .int (-(nI (i + 1)))] M).bind (fun q => some (some (.int (nI 1)), q.2)) := by
    intro i hi
    have e : am_k (-1) - nI i = -(nI (i + 1)) := by
      have : ∀ i, i < 3 → am_k (-1) - nI i = -(nI (i + 1)) := by decide +kernel
      exact this i hi
    rw [e]
    obtain ⟨M1, a1, a2, a3⟩ := c_add d M cs st o 0 false (-(nI (i + 1))) h hl
    rw [a1]
    simp only [Option.bind_some, Option.toList_some, Option.toList_none, List.cons_append, List.nil_append, bi_eq0, bi_eq1, bi_nem, if_true, if_false, ite_not, Classical.not_not, sg10_beginsQ_105]
  have fin : ∀ i, i < 3 → nmx use c = i + 1 → CR M ((am_call (d + 1) i10_add [.ref 52, .int (-(nI (i + 1)))] M).bind (fun q => some (some (.int (nI 1)), q.2))) (if 0 < nmx use c then some (cs ++ [-(nI (nmx use c))], st, o, 0, false) else none) := by
    intro i hi hn
    rw [hn, if_pos (by omega)]
    obtain ⟨M1, a1, a2, a3⟩ := c_add d M cs st o 0 false (-(nI (i + 1))) h hl
    rw [a1]
    exact ⟨M1, rfl, a2, a3⟩
  rw [step 0 (by omega)]
  by_cases c0 : c = nI (if use = 0 then (if 0 = 0 then 111 else if 0 = 1 then 108 else 114) else (if 0 = 0 then 97 else if 0 = 1 then 112 else 110))
  · rw [if_pos c0, hit 0 (by omega)]
    refine fin 0 (by omega) ?_
    rw [c0]
    have : ∀ use, use ≤ 1 → nmx use (nI (if use = 0 then (if 0 = 0 then 111 else if 0 = 1 then 108 else 114) else (if 0 = 0 then 97 else if 0 = 1 then 112 else 110))) = 0 + 1 := by decide +kernel
    exact this use hu
  · rw [if_neg c0, step 1 (by omega)]
    by_cases c1 : c = nI (if use = 0 then (if 1 = 0 then 111 else if 1 = 1 then 108 else 114) else (if 1 = 0 then 97 else if 1 = 1 then 112 else 110))
    · rw [if_pos c1, hit 1 (by omega)]
      refine fin 1 (by omega) ?_
      rw [c1]
      have : ∀ use, use ≤ 1 → nmx use (nI (if use = 0 then (if 1 = 0 then 111 else if 1 = 1 then 108 else 114) else (if 1 = 0 then 97 else if 1 = 1 then 112 else 110))) = 1 + 1 := by decide +kernel
      exact this use hu
    · rw [if_neg c1, step 2 (by omega)]
      by_cases c2 : c = nI (if use = 0 then (if 2 = 0 then 111 else if 2 = 1 then 108 else 114) else (if 2 = 0 then 97 else if 2 = 1 then 112 else 110))
      · rw [if_pos c2, hit 2 (by omega)]
        refine fin 2 (by omega) ?_
        rw [c2]
        have : ∀ use, use ≤ 1 → nmx use (nI (if use = 0 then (if 2 = 0 then 111 else if 2 = 1 then 108 else 114) else (if 2 = 0 then 97 else if 2 = 1 then 112 else 110))) = 2 + 1 := by decide +kernel
        exact this use hu
      · rw [if_neg c2, last, if_neg]
        · exact ⟨M, rfl, fun _ _ _ _ => rfl⟩
        · have hh : use = 0 ∨ use = 1 := by omega
          rcases hh with rfl | rfl
          · unfold nmx
            rw [if_pos rfl, if_neg (show ¬ c = nI 111 from c0), if_neg (show ¬ c = nI 108 from c1), if_neg (show ¬ c = nI 114 from c2)]
            omega
          · unfold nmx
            rw [if_neg (by decide), if_neg (show ¬ c = nI 97 from c0), if_neg (show ¬ c = nI 112 from c1), if_neg (show ¬ c = nI 110 from c2)]
            omega
theorem c_beginsQ (d : Nat) (cs st : List Int32) (o g : Nat) (c : Int32) (use : Nat) (hu : use ≤ 1) (M : am_M) (h : TS M (cs, st, o, g, true)) (hI : sI (cs, st, o, g, true)) (hl : cs.length + st.length < 50) : CR M (am_call (d + 2) i10_beginsQ [.ref 52, .int c, .int (nI use)] M) (syB use c (cs, st, o, g, true)) := by
  obtain ⟨i1, i2, i3, i4, i5⟩ := hI
  have h0 := h
  obtain ⟨h1, h4, h5, h6, h7, hc, hs⟩ := h
  dsimp only at i1 i3 h5
  rw [ec10_beginsQ, h5]
  simp (disch := omega) only [false_or, nle9, nI_dec9, nI_add, pk_mul, pk_sub, nI_clamp, nI_in9, nI_pos9, nI_lt9, nI_le9, nI_eq9, nI_eq09, nI_le09, am_k_m1, if_true, if_false, ite_not, Classical.not_not]
  unfold syB
  dsimp only
  have hpush : c = nI 33 ∨ c = nI 40 → CR M (if o < 5 then (am_call (d + 1) i10_hold [.ref 52, .int c] (am_up M 52 5 (nI (o + 1)))).bind (fun q => am_lim (am_call (d + 1)) (am_R i10_beginsQ) (am_tx i10_beginsQ) 37 [.ref 52, .int c, .int (nI use), .null] (q.1.toList ++ []) q.2) else some (some (.int (nI 0)), M)) (if o < 5 then some (cs, c :: st, o + 1, g, true) else none) := by
    intro _
    by_cases ho : o < 5
    · rw [if_pos ho, if_pos ho]
      obtain ⟨t1, t2⟩ := TS_up5 (o + 1) h0
      obtain ⟨M1, a1, a2, a3⟩ := c_hold d _ cs st (o + 1) g true c t1 (by omega)
      rw [a1]
      simp only [Option.bind_some, Option.toList_some, Option.toList_none, List.cons_append, List.nil_append, bi_eq0, bi_eq1, bi_nem, if_true, if_false, ite_not, Classical.not_not, sg10_beginsQ_37]
      exact ⟨M1, rfl, a2, F3_tr t2 a3⟩
    · rw [if_neg ho, if_neg ho]
      exact ⟨M, rfl, fun _ _ _ _ => rfl⟩
  by_cases h33 : c = nI 33
  · rw [if_pos h33, if_pos (Or.inl h33)]
    exact hpush (Or.inl h33)
  · rw [if_neg h33]
    by_cases h40 : c = nI 40
    · rw [if_pos h40, if_pos (Or.inr h40)]
      exact hpush (Or.inr h40)
    · rw [if_neg h40, if_neg (by rintro (q | q); exact h33 q; exact h40 q)]
      obtain ⟨t1, t2⟩ := TS_up7 false h0
      change TS (am_up M 52 7 (nI 0)) _ at t1
      change F3 M (am_up M 52 7 (nI 0)) at t2
      rw [c_isDigit10]
      simp only [Option.bind_some, Option.toList_some, Option.toList_none, List.cons_append, List.nil_append, bi_eq0, bi_eq1, bi_nem, if_true, if_false, ite_not, Classical.not_not, sg10_beginsQ_49, au_s]
      by_cases hd : 48 ≤ c.toInt ∧ c.toInt < 58
      · rw [if_pos hd, if_pos hd]
        obtain ⟨u1, u2⟩ := TS_up6 1 t1
        obtain ⟨M1, a1, a2, a3⟩ := c_add d _ cs st o 1 false (c - nI 48) u1 (by omega)
        rw [a1]
        simp only [Option.bind_some, Option.toList_some, Option.toList_none, List.cons_append, List.nil_append, bi_eq0, bi_eq1, bi_nem, if_true, if_false, ite_not, Classical.not_not, sg10_beginsQ_76]
        exact ⟨M1, rfl, a2, F3_tr t2 (F3_tr u2 a3)⟩
      · rw [if_neg hd, if_neg hd]
        rw [if_neg (nIc (by decide) (by decide) (by decide))]
        obtain ⟨u1, u2⟩ := TS_up6 0 t1
        exact CR_F (F3_tr t2 u2) (c_names d cs st o c use hu _ u1 (by omega))
theorem c_followsQ (d : Nat) (cs st : List Int32) (o g : Nat) (c : Int32) (M : am_M) (h : TS M (cs, st, o, g, false)) (hI : sI (cs, st, o, g, false)) (hl : cs.length + st.length < 50) : CR M (am_call (d + 4) i10_followsQ [.ref 52, .int c] M) (syF c (cs, st, o, g, false)) := by
  have hI0 := hI
  obtain ⟨i1, i2, i3, i4, i5⟩ := hI
  dsimp only at i1 i2 i3 i4 i5
  rw [ec10_followsQ, c_isDigit10]
  simp only [Option.bind_some, Option.toList_some, Option.toList_none, List.cons_append, List.nil_append, bi_eq0, bi_eq1, bi_nem, if_true, if_false, ite_not, Classical.not_not, sg10_followsQ_4]
  unfold syF
  dsimp only
  by_cases hd : 48 ≤ c.toInt ∧ c.toInt < 58
  · rw [if_pos hd, if_pos hd]
    have hg := c_goesOn (d + 2) cs st o g c M h hI0
    by_cases hcnd : g < 1 ∨ 4 ≤ g ∨ cs.length < 1
    · rw [if_pos hcnd] at hg ⊢
      obtain ⟨M1, a1, a2⟩ := hg
      rw [a1]
      simp only [Option.bind_some, Option.toList_some, Option.toList_none, List.cons_append, List.nil_append, bi_eq0, bi_eq1, bi_nem, if_true, if_false, ite_not, Classical.not_not, sg10_followsQ_12]
      exact ⟨M1, by rw [if_pos (Or.inl nI_0)], a2⟩
    · rw [if_neg hcnd] at hg ⊢
      obtain ⟨M1, a1, a2, a3⟩ := hg
      rw [a1]
      simp only [Option.bind_some, Option.toList_some, Option.toList_none, List.cons_append, List.nil_append, bi_eq0, bi_eq1, bi_nem, if_true, if_false, ite_not, Classical.not_not, sg10_followsQ_12]
      exact ⟨M1, by rw [if_pos (Or.inr nI_one)], a2, a3⟩
  · rw [if_neg hd, if_neg hd]
    obtain ⟨u1, u2⟩ := TS_up6 0 h
    dsimp only at u1
    by_cases h41 : c = nI 41
    · rw [if_pos h41, if_pos h41]
      have hcl := c_closes d cs st o g false _ u1 hI0
      refine CR_F u2 ?_
      cases hz : syCl (setl 1 st cs o) with
      | none =>
        rw [hz] at hcl
        obtain ⟨M1, a1, a2⟩ := hcl
        rw [a1]
        simp only [Option.bind_some, Option.toList_some, Option.toList_none, List.cons_append, List.nil_append, bi_eq0, bi_eq1, bi_nem, if_true, if_false, ite_not, Classical.not_not, sg10_followsQ_28]
        exact ⟨M1, by rw [if_pos (Or.inl nI_0)], a2⟩
      | some s' =>
        rw [hz] at hcl
        obtain ⟨M1, a1, a2, a3⟩ := hcl
        rw [a1]
        simp only [Option.bind_some, Option.toList_some, Option.toList_none, List.cons_append, List.nil_append, bi_eq0, bi_eq1, bi_nem, if_true, if_false, ite_not, Classical.not_not, sg10_followsQ_28]
        exact ⟨M1, by rw [if_pos (Or.inr nI_one)], a2, a3⟩
    · rw [if_neg h41, if_neg h41, c_strengthOf]
      have hs6 := stn_le c
      simp only [Option.bind_some, Option.toList_some, Option.toList_none, List.cons_append, List.nil_append, bi_eq0, bi_eq1, bi_nem, if_true, if_false, ite_not, Classical.not_not, sg10_followsQ_33]
      simp (disch := omega) only [nI_lt9, nI_le9, nI_eq9]
      by_cases hlo : stn c < 1
      · rw [if_pos hlo, if_pos (Or.inl hlo)]
        exact ⟨_, rfl, u2⟩
      · rw [if_neg hlo]
        by_cases hhi : stn c ≤ 5
        · rw [if_pos hhi, if_neg (show ¬ (stn c < 1 ∨ 5 < stn c) by omega)]
          refine CR_F u2 ?_
          have hk : ∀ k, k ≤ 6 → (if stn c = 3 then (4 : Nat) else stn c) = k → CR (am_up M 52 6 (nI 0)) ((am_call (d + 3) i10_settle [.ref 52, .int (nI k)] (am_up M 52 6 (nI 0))).bind (fun q => am_lim (am_call (d + 3)) (am_R i10_followsQ) (am_tx i10_followsQ) 60 [.ref 52, .int c, .int (nI (stn c))] (q.1.toList ++ []) q.2)) (syF3 c (setl k st cs o)) := by
            intro k hk6 _
            obtain ⟨M1, a1, a2, a3⟩ := c_settle (d + 1) k hk6 st cs o 0 false _ u1 i1 i2 i3
            obtain ⟨v1, v2, v3⟩ := setl_inv k st cs o i2
            rw [a1]
            simp only [Option.bind_some, Option.toList_some, Option.toList_none, List.cons_append, List.nil_append, bi_eq0, bi_eq1, bi_nem, if_true, if_false, ite_not, Classical.not_not, sg10_followsQ_60]
            generalize setl k st cs o = t at a2 v1 v2 v3
            obtain ⟨tc, ts, to⟩ := t
            dsimp only at a2 v1 v2 v3
            have fin : CR (am_up M 52 6 (nI 0)) ((am_call (d + 3) i10_hold [.ref 52, .int c] M1).bind (fun q => am_lim (am_call (d + 3)) (am_R i10_followsQ) (am_tx i10_followsQ) 97 [.ref 52, .int c, .int (nI (stn c))] (q.1.toList ++ []) q.2)) (some (tc, c :: ts, to, 0, true)) := by
              obtain ⟨M2, b1, b2, b3⟩ := c_hold (d + 2) M1 tc ts to 0 false c a2 (by omega)
              rw [b1]
              simp only [Option.bind_some, Option.toList_some, Option.toList_none, List.cons_append, List.nil_append, bi_eq0, bi_eq1, bi_nem, if_true, if_false, ite_not, Classical.not_not, sg10_followsQ_97]
              obtain ⟨w1, w2⟩ := TS_up7 true b2
              exact ⟨_, rfl, w1, F3_tr a3 (F3_tr b3 w2)⟩
            have a20 := a2
            obtain ⟨h1, h4, h5, h6, h7, hc, hs⟩ := a2
            unfold syF3
            cases ts with
            | nil =>
              change M1 52 4 = nI 0 at h4
              rw [h4]
              dsimp only
              by_cases e3 : nI (stn c) = nI 3
              · rw [if_pos e3, if_pos (by decide +kernel)]
                exact fin
              · rw [if_neg e3]
                exact fin
            | cons q ts =>
              change M1 52 4 = nI (ts.length + 1) at h4
              have hlen : (q :: ts).length = ts.length + 1 := rfl
              have htop : M1 55 ts.length = q := hs ts.length q (by
                dsimp only
                rw [List.reverse_cons, List.getElem?_append_right (by simp), List.length_reverse, Nat.sub_self]
                rfl)
              have hq6 := stn_le q
              dsimp only
              by_cases e3 : stn c = 3
              · rw [if_pos (by rw [e3]), h4]
                simp (disch := omega) only [false_or, nle9, nI_dec9, nI_add, pk_mul, pk_sub, nI_clamp, nI_in9, nI_pos9, nI_lt9, nI_le9, nI_eq9, nI_eq09, nI_le09, am_k_m1, if_true, if_false, ite_not, Classical.not_not, Nat.add_sub_cancel, htop, c_strengthOf]
                rw [if_neg (by omega)]
                simp only [Option.bind_some, Option.toList_some, Option.toList_none, List.cons_append, List.nil_append, bi_eq0, bi_eq1, bi_nem, if_true, if_false, ite_not, Classical.not_not, sg10_followsQ_86]
                simp (disch := omega) only [nI_eq9]
                by_cases eq3 : stn q = 3
                · rw [if_pos eq3, if_pos ⟨e3, eq3⟩]
                  exact ⟨M1, rfl, a3⟩
                · rw [if_neg eq3, if_neg (fun z => eq3 z.2)]
                  exact fin
              · rw [if_neg (by rw [nI_eq9 (by omega) (by omega)]; exact e3), if_neg (fun z => e3 z.1)]
                exact fin
          by_cases e3 : stn c = 3
          · rw [if_pos e3, if_pos e3]
            exact hk 4 (by omega) (if_pos e3)
          · rw [if_neg e3, if_neg e3]
            exact hk (stn c) hs6 (if_neg e3)
        · rw [if_neg hhi, if_pos (Or.inr (by omega))]
          exact ⟨_, rfl, u2⟩
