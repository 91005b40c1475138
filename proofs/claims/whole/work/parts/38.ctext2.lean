theorem au_s {M : am_M} {a i : Nat} {x : Int32} : am_up M a i x a i = x := by
  show am_setc M a (upd (M a) i x) a i = x
  rw [stc_eq, upd_eq]
theorem au_j {M : am_M} {a i j : Nat} {x : Int32} (h : j ≠ i) : am_up M a i x a j = M a j := by
  show am_setc M a (upd (M a) i x) a j = _
  rw [stc_eq, upd_ne h]
theorem au_b {M : am_M} {a i b : Nat} {x : Int32} (h : b ≠ a) : am_up M a i x b = M b := by
  show am_setc M a (upd (M a) i x) b = _
  rw [stc_ne h]
theorem stn_le (c : Int32) : stn c ≤ 6 := by
  unfold stn
  (repeat' split) <;> omega
theorem TS_45 {M : am_M} {cs st : List Int32} {q : Int32} {o o' g : Nat} {due : Bool} (h : TS M (cs, q :: st, o, g, due)) : TS (am_up (am_up M 52 4 (nI st.length)) 52 5 (nI o')) (cs, st, o', g, due) ∧ F3 M (am_up (am_up M 52 4 (nI st.length)) 52 5 (nI o')) := by
  obtain ⟨h1, h4, h5, h6, h7, hc, hs⟩ := h
  refine ⟨⟨?_, ?_, ?_, ?_, ?_, ?_, ?_⟩, fun a h52 _ _ => ?_⟩
  · simp (disch := omega) only [au_j, h1]
  · simp (disch := omega) only [au_j, au_s]
  · simp (disch := omega) only [au_s]
  · simp (disch := omega) only [au_j, h6]
  · simp (disch := omega) only [au_j, h7]
  · intro i v hi
    simp (disch := omega) only [au_b]
    exact hc i v hi
  · intro i v hi
    simp (disch := omega) only [au_b]
    refine hs i v ?_
    dsimp only at hi ⊢
    rw [List.reverse_cons, List.getElem?_append_left (List.getElem?_eq_some_iff.mp hi).1]
    exact hi
  · rw [au_b h52, au_b h52]
theorem c_settle_l (d k : Nat) (hk : k ≤ 6) : ∀ (st cs : List Int32) (o g : Nat) (due : Bool) (M : am_M), TS M (cs, st, o, g, due) → cs.length + st.length ≤ 50 → co st ≤ o → o ≤ 5 → ∃ M', am_lim (am_call (d + 1)) (am_R i10_settle) (am_tx i10_settle) 0 [.ref 52, .int (nI k)] [] M = some (none, M') ∧ TS M' ((setl k st cs o).1, (setl k st cs o).2.1, (setl k st cs o).2.2, g, due) ∧ F3 M M'
  | [], cs, o, g, due, M, h, hl, hco, ho => by
    refine ⟨M, ?_, h, fun _ _ _ _ => rfl⟩
    obtain ⟨h1, h4, h5, h6, h7, hc, hs⟩ := h
    change M 52 4 = nI 0 at h4
    rw [sg10_settle_0, h4]
    rw [if_pos (by decide +kernel)]
  | q :: st, cs, o, g, due, M, h, hl, hco, ho => by
    have h0 := h
    obtain ⟨h1, h4, h5, h6, h7, hc, hs⟩ := h
    have hq6 := stn_le q
    have hlen : (q :: st).length = st.length + 1 := rfl
    rw [hlen] at hl
    have htop : M 55 st.length = q := hs st.length q (by
      dsimp only
      rw [List.reverse_cons, List.getElem?_append_right (by simp), List.length_reverse, Nat.sub_self]
      rfl)
    have hset : setl k (q :: st) cs o = if stn q < k then (cs, q :: st, o) else setl k st (cs ++ [-q]) (if q = nI 33 then o - 1 else o) := rfl
    change M 52 4 = nI (st.length + 1) at h4
    rw [sg10_settle_0, h4]
    simp (disch := omega) only [false_or, nle9, nI_dec9, nI_add, pk_mul, pk_sub, nI_clamp, nI_in9, nI_pos9, nI_lt9, nI_le9, nI_eq9, nI_eq09, nI_le09, am_k_m1, if_true, if_false, ite_not, Classical.not_not, Nat.add_sub_cancel, htop, c_strengthOf]
    rw [if_neg (by omega)]
    simp only [Option.bind_some, Option.toList_some, Option.toList_none, List.cons_append, List.nil_append, bi_eq0, bi_eq1, bi_nem, if_true, if_false, ite_not, Classical.not_not, sg10_settle_21]
    simp (disch := omega) only [false_or, nle9, nI_dec9, nI_add, pk_mul, pk_sub, nI_clamp, nI_in9, nI_pos9, nI_lt9, nI_le9, nI_eq9, nI_eq09, nI_le09, am_k_m1, if_true, if_false, ite_not, Classical.not_not]
    rw [hset]
    by_cases hlt : stn q < k
    · rw [if_pos hlt, if_pos hlt]
      exact ⟨M, rfl, h0, fun _ _ _ _ => rfl⟩
    · rw [if_neg hlt, if_neg hlt]
      simp (disch := omega) only [au_s, au_j, au_b, h4, false_or, nle9, nI_dec9, nI_add, pk_mul, pk_sub, nI_clamp, nI_in9, nI_pos9, nI_lt9, nI_le9, nI_eq9, nI_eq09, nI_le09, am_k_m1, if_true, if_false, ite_not, Classical.not_not, Nat.add_sub_cancel, htop]
      change M 52 5 = nI o at h5
      by_cases h33 : q = nI 33
      · have hco1 : 1 ≤ o := by
          have : co (q :: st) = 1 + co st := by
            show (if q = nI 33 ∨ q = nI 40 then 1 else 0) + co st = _
            rw [if_pos (Or.inl h33)]
          omega
        rw [if_pos h33, if_pos h33, h5]
        simp (disch := omega) only [false_or, nle9, nI_dec9, nI_add, pk_mul, pk_sub, nI_clamp, nI_in9, nI_pos9, nI_lt9, nI_le9, nI_eq9, nI_eq09, nI_le09, am_k_m1, if_true, if_false, ite_not, Classical.not_not]
        obtain ⟨t1, t2⟩ := TS_45 (o' := o - 1) h0
        obtain ⟨M1, a1, a2, a3⟩ := c_add d _ cs st (o - 1) g due (-q) t1 (by omega)
        rw [a1]
        simp only [Option.bind_some, Option.toList_some, Option.toList_none, List.cons_append, List.nil_append, bi_eq0, bi_eq1, bi_nem, if_true, if_false, ite_not, Classical.not_not, sg10_settle_77]
        obtain ⟨M2, b1, b2, b3⟩ := c_settle_l d k hk st (cs ++ [-q]) (o - 1) g due M1 a2 (by simp; omega) (by
          have : co (q :: st) = 1 + co st := by
            show (if q = nI 33 ∨ q = nI 40 then 1 else 0) + co st = _
            rw [if_pos (Or.inl h33)]
          omega) (by omega)
        exact ⟨M2, b1, b2, F3_tr t2 (F3_tr a3 b3)⟩
      · rw [if_neg h33, if_neg h33, h5]
        simp (disch := omega) only [false_or, nle9, nI_dec9, nI_add, pk_mul, pk_sub, nI_clamp, nI_in9, nI_pos9, nI_lt9, nI_le9, nI_eq9, nI_eq09, nI_le09, am_k_m1, if_true, if_false, ite_not, Classical.not_not, Nat.sub_zero]
        obtain ⟨t1, t2⟩ := TS_45 (o' := o) h0
        obtain ⟨M1, a1, a2, a3⟩ := c_add d _ cs st o g due (-q) t1 (by omega)
        rw [a1]
        simp only [Option.bind_some, Option.toList_some, Option.toList_none, List.cons_append, List.nil_append, bi_eq0, bi_eq1, bi_nem, if_true, if_false, ite_not, Classical.not_not, sg10_settle_77]
        obtain ⟨M2, b1, b2, b3⟩ := c_settle_l d k hk st (cs ++ [-q]) o g due M1 a2 (by simp; omega) (by
          have : co (q :: st) = (if q = nI 33 ∨ q = nI 40 then 1 else 0) + co st := rfl
          omega) ho
        exact ⟨M2, b1, b2, F3_tr t2 (F3_tr a3 b3)⟩
theorem c_settle (d k : Nat) (hk : k ≤ 6) (st cs : List Int32) (o g : Nat) (due : Bool) (M : am_M) (h : TS M (cs, st, o, g, due)) (hl : cs.length + st.length ≤ 50) (hco : co st ≤ o) (ho : o ≤ 5) : ∃ M', am_call (d + 2) i10_settle [.ref 52, .int (nI k)] M = some (none, M') ∧ TS M' ((setl k st cs o).1, (setl k st cs o).2.1, (setl k st cs o).2.2, g, due) ∧ F3 M M' := by
  obtain ⟨M', h1, h2, h3⟩ := c_settle_l d k hk st cs o g due M h hl hco ho
  refine ⟨M', ?_, h2, h3⟩
  rw [← h1]
  rw [show d + 2 = d + 1 + 1 from rfl, ec10_settle, ← sg10_settle_0]
/-- what settling keeps -/
theorem setl_inv (k : Nat) : ∀ (st cs : List Int32) (o : Nat), co st ≤ o → (setl k st cs o).1.length + (setl k st cs o).2.1.length = cs.length + st.length ∧ co (setl k st cs o).2.1 ≤ (setl k st cs o).2.2 ∧ (setl k st cs o).2.2 ≤ o
  | [], cs, o, h => ⟨rfl, h, Nat.le_refl _⟩
  | q :: st, cs, o, h => by
    have hset : setl k (q :: st) cs o = if stn q < k then (cs, q :: st, o) else setl k st (cs ++ [-q]) (if q = nI 33 then o - 1 else o) := rfl
    have hq : co (q :: st) = (if q = nI 33 ∨ q = nI 40 then 1 else 0) + co st := rfl
    rw [hset]
    by_cases hlt : stn q < k
    · rw [if_pos hlt]
      exact ⟨rfl, h, Nat.le_refl _⟩
    · rw [if_neg hlt]
      by_cases h33 : q = nI 33
      · rw [if_pos h33]
        rw [if_pos (Or.inl h33)] at hq
        obtain ⟨a1, a2, a3⟩ := setl_inv k st (cs ++ [-q]) (o - 1) (by omega)
        refine ⟨?_, a2, by omega⟩
        rw [a1]
        simp
        omega
      · rw [if_neg h33]
        obtain ⟨a1, a2, a3⟩ := setl_inv k st (cs ++ [-q]) o (by omega)
        refine ⟨?_, a2, a3⟩
        rw [a1]
        simp
        omega
