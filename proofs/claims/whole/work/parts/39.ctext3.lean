/-! TEXTS: the class's methods, a byte's step -/
def CR (M : am_M) (r : am_Res) (os : Option sy_S) : Prop := match os with
  | some s' => ∃ M', r = some (some (.int (nI 1)), M') ∧ TS M' s' ∧ F3 M M'
  | none => ∃ M', r = some (some (.int (nI 0)), M') ∧ F3 M M'
/-- what holds of the stack throughout -/
def sI (s : sy_S) : Prop := s.1.length + s.2.1.length ≤ 50 ∧ co s.2.1 ≤ s.2.2.1 ∧ s.2.2.1 ≤ 5 ∧ s.2.2.2.1 ≤ 4 ∧ ∀ q ∈ s.2.1, 1 ≤ stn q ∨ q = nI 40
theorem c_isDigit10 (d : Nat) (c : Int32) (M : am_M) : am_call (d + 1) i10_isDigit [.int c] M = some (some (.int (bi (48 ≤ c.toInt ∧ c.toInt < 58))), M) := by
  rw [ec10_isDigit]
  simp only [i32_lt, i32_le]
  rw [nI_toInt (by omega), nI_toInt (by omega)]
  by_cases h1 : c.toInt < 48
  · rw [if_pos (by omega), bi_f _ (by omega)]
  · rw [if_neg (by omega)]
    by_cases h2 : c.toInt < 58
    · rw [if_pos (by omega), bi_t _ (by omega)]
    · rw [if_neg (by omega), bi_f _ (by omega)]
theorem setl_mem (k : Nat) : ∀ (st cs : List Int32) (o : Nat), ∀ q ∈ (setl k st cs o).2.1, q ∈ st
  | [], cs, o, q, h => h
  | s :: st, cs, o, q, h => by
    have hset : setl k (s :: st) cs o = if stn s < k then (cs, s :: st, o) else setl k st (cs ++ [-s]) (if s = nI 33 then o - 1 else o) := rfl
    rw [hset] at h
    by_cases c : stn s < k
    · rw [if_pos c] at h; exact h
    · rw [if_neg c] at h; exact List.mem_cons_of_mem _ (setl_mem k st _ _ q h)
theorem setl_top (k : Nat) : ∀ (st cs : List Int32) (o : Nat), topOK (setl k st cs o).2.1 k
  | [], cs, o => fun s h => by cases h
  | s :: st, cs, o => by
    have hset : setl k (s :: st) cs o = if stn s < k then (cs, s :: st, o) else setl k st (cs ++ [-s]) (if s = nI 33 then o - 1 else o) := rfl
    rw [hset]
    by_cases c : stn s < k
    · rw [if_pos c]; intro q h; cases h; exact c
    · rw [if_neg c]; exact setl_top k st _ _
theorem TS_c4 {M : am_M} {cs st : List Int32} {q : Int32} {o o' g : Nat} {due : Bool} (h : TS M (cs, q :: st, o, g, due)) : TS (am_up (am_up M 52 4 (nI st.length)) 52 5 (nI o')) (cs, st, o', g, due) ∧ F3 M (am_up (am_up M 52 4 (nI st.length)) 52 5 (nI o')) := TS_45 h
theorem c_closes (d : Nat) (cs st : List Int32) (o g : Nat) (due : Bool) (M : am_M) (h : TS M (cs, st, o, 0, false)) (hI : sI (cs, st, o, g, due)) : CR M (am_call (d + 3) i10_closes [.ref 52] M) (syCl (setl 1 st cs o)) := by
  obtain ⟨i1, i2, i3, i4, i5⟩ := hI
  obtain ⟨M1, a1, a2, a3⟩ := c_settle d 1 (by decide) st cs o 0 false M h i1 i2 i3
  obtain ⟨v1, v2, v3⟩ := setl_inv 1 st cs o i2
  have hm := setl_mem 1 st cs o
  have ht := setl_top 1 st cs o
  rw [ec10_closes, a1]
  simp only [Option.bind_some, Option.toList_some, Option.toList_none, List.cons_append, List.nil_append, bi_eq0, bi_eq1, bi_nem, if_true, if_false, ite_not, Classical.not_not, sg10_closes_5]
  generalize setl 1 st cs o = t at a2 v1 v2 v3 hm ht
  obtain ⟨tc, ts, to⟩ := t
  dsimp only at a2 v1 v2 v3 hm ht i1 i2 i3
  have a20 := a2
  obtain ⟨h1, h4, h5, h6, h7, hc, hs⟩ := a2
  cases ts with
  | nil =>
    change M1 52 4 = nI 0 at h4
    rw [h4]
    exact ⟨M1, by rw [if_pos (by decide +kernel)], a3⟩
  | cons q ts =>
    change M1 52 4 = nI (ts.length + 1) at h4
    change M1 52 5 = nI to at h5
    have hq : q = nI 40 := by
      rcases i5 q (hm q List.mem_cons_self) with z | z
      · have := ht q rfl; omega
      · exact z
    have hco : co (q :: ts) = 1 + co ts := by
      show (if q = nI 33 ∨ q = nI 40 then 1 else 0) + co ts = _
      rw [if_pos (Or.inr hq)]
    have hlen : (q :: ts).length = ts.length + 1 := rfl
    rw [h4]
    simp (disch := omega) only [false_or, nle9, nI_dec9, nI_add, pk_mul, pk_sub, nI_clamp, nI_in9, nI_pos9, nI_lt9, nI_le9, nI_eq9, nI_eq09, nI_le09, am_k_m1, if_true, if_false, ite_not, Classical.not_not, Nat.add_sub_cancel, au_j, h5]
    rw [if_neg (by omega)]
    obtain ⟨t1, t2⟩ := TS_45 (o' := to - 1) a20
    exact ⟨_, rfl, t1, F3_tr a3 t2⟩
theorem TS_up6 {M : am_M} {s : sy_S} (g' : Nat) (h : TS M s) : TS (am_up M 52 6 (nI g')) (s.1, s.2.1, s.2.2.1, g', s.2.2.2.2) ∧ F3 M (am_up M 52 6 (nI g')) := by
  obtain ⟨h1, h4, h5, h6, h7, hc, hs⟩ := h
  refine ⟨⟨?_, ?_, ?_, ?_, ?_, fun i v hi => ?_, fun i v hi => ?_⟩, fun a h52 _ _ => au_b h52⟩
  · rw [au_j (by decide), h1]
  · rw [au_j (by decide), h4]
  · rw [au_j (by decide), h5]
  · rw [au_s]
  · rw [au_j (by decide), h7]
  · rw [au_b (by decide)]; exact hc i v hi
  · rw [au_b (by decide)]; exact hs i v hi
theorem TS_up7 {M : am_M} {s : sy_S} (due : Bool) (h : TS M s) : TS (am_up M 52 7 (bif due then nI 1 else nI 0)) (s.1, s.2.1, s.2.2.1, s.2.2.2.1, due) ∧ F3 M (am_up M 52 7 (bif due then nI 1 else nI 0)) := by
  obtain ⟨h1, h4, h5, h6, h7, hc, hs⟩ := h
  refine ⟨⟨?_, ?_, ?_, ?_, ?_, fun i v hi => ?_, fun i v hi => ?_⟩, fun a h52 _ _ => au_b h52⟩
  · rw [au_j (by decide), h1]
  · rw [au_j (by decide), h4]
  · rw [au_j (by decide), h5]
  · rw [au_j (by decide), h6]
  · rw [au_s]
  · rw [au_b (by decide)]; exact hc i v hi
  · rw [au_b (by decide)]; exact hs i v hi
theorem TS_up5 {M : am_M} {s : sy_S} (o' : Nat) (h : TS M s) : TS (am_up M 52 5 (nI o')) (s.1, s.2.1, o', s.2.2.2.1, s.2.2.2.2) ∧ F3 M (am_up M 52 5 (nI o')) := by
  obtain ⟨h1, h4, h5, h6, h7, hc, hs⟩ := h
  refine ⟨⟨?_, ?_, ?_, ?_, ?_, fun i v hi => ?_, fun i v hi => ?_⟩, fun a h52 _ _ => au_b h52⟩
  · rw [au_j (by decide), h1]
  · rw [au_j (by decide), h4]
  · rw [au_s]
  · rw [au_j (by decide), h6]
  · rw [au_j (by decide), h7]
  · rw [au_b (by decide)]; exact hc i v hi
  · rw [au_b (by decide)]; exact hs i v hi
theorem c_goesOn (d : Nat) (cs st : List Int32) (o g : Nat) (c : Int32) (M : am_M) (h : TS M (cs, st, o, g, false)) (hI : sI (cs, st, o, g, false)) : CR M (am_call (d + 1) i10_goesOnInNumber [.ref 52, .int c] M) (if g < 1 ∨ 4 ≤ g ∨ cs.length < 1 then none else some (cs.dropLast ++ [nI 10 * cs.getLastD 0 + c - nI 48], st, o, g + 1, false)) := by
  obtain ⟨i1, i2, i3, i4, i5⟩ := hI
  have h0 := h
  obtain ⟨h1, h4, h5, h6, h7, hc, hs⟩ := h
  dsimp only at i1 i4 h1 h6 hc
  rw [ec10_goesOnInNumber, h6, h1]
  simp (disch := omega) only [false_or, nle9, nI_dec9, nI_add, pk_mul, pk_sub, nI_clamp, nI_in9, nI_pos9, nI_lt9, nI_le9, nI_eq9, nI_eq09, nI_le09, am_k_m1, if_true, if_false, ite_not, Classical.not_not]
  by_cases hg1 : g < 1
  · rw [if_pos hg1, if_pos (Or.inl hg1)]
    exact ⟨M, rfl, fun _ _ _ _ => rfl⟩
  · rw [if_neg hg1]
    by_cases hg4 : g < 4
    · rw [if_pos hg4]
      by_cases hl : cs.length < 1
      · rw [if_pos hl, if_pos (Or.inr (Or.inr hl))]
        exact ⟨M, rfl, fun _ _ _ _ => rfl⟩
      · rw [if_neg hl, if_neg (by omega)]
        simp (disch := omega) only [false_or, nle9, nI_dec9, nI_add, pk_mul, pk_sub, nI_clamp, nI_in9, nI_pos9, nI_lt9, nI_le9, nI_eq9, nI_eq09, nI_le09, am_k_m1, if_true, if_false, ite_not, Classical.not_not, au_b, h6]
        obtain ⟨cs', v, rfl⟩ : ∃ cs' v, cs = cs' ++ [v] := ⟨cs.dropLast, cs.getLast (by intro q; subst q; simp at hl), (List.dropLast_concat_getLast _).symm⟩
        have hlen : (cs' ++ [v]).length - 1 = cs'.length := by simp
        have hv : M 53 cs'.length = v := hc cs'.length v (by rw [List.getElem?_append_right (Nat.le_refl _), Nat.sub_self]; rfl)
        rw [hlen, hv]
        refine ⟨_, rfl, ?_, fun a h52 h53 _ => by rw [au_b h52, au_b h53]⟩
        refine ⟨?_, ?_, ?_, ?_, ?_, fun i w hi => ?_, fun i w hi => ?_⟩
        · simp (disch := omega) only [au_j, au_b, h1]
          simp
        · simp (disch := omega) only [au_j, au_b, h4]
        · simp (disch := omega) only [au_j, au_b, h5]
        · simp (disch := omega) only [au_s]
        · simp (disch := omega) only [au_j, au_b, h7]
        · rw [au_b (by decide)]
          dsimp only at hi
          have e9 : (cs' ++ [v]).dropLast = cs' := by simp
          have e8 : (cs' ++ [v]).getLastD 0 = v := by simp
          rw [e9, e8] at hi
          by_cases cc : i = cs'.length
          · subst cc
            rw [au_s]
            rw [List.getElem?_append_right (Nat.le_refl _), Nat.sub_self] at hi
            rw [← Option.some.inj hi, Int32.mul_comm]
          · rw [au_j cc]
            have hlt := (List.getElem?_eq_some_iff.mp hi).1
            rw [List.length_append, List.length_singleton] at hlt
            rw [List.getElem?_append_left (by omega)] at hi
            exact hc i w (by rw [List.getElem?_append_left (by omega)]; exact hi)
        · rw [au_b (by decide), au_b (by decide)]
          exact hs i w hi
    · rw [if_neg hg4, if_pos (Or.inr (Or.inl (by omega)))]
      exact ⟨M, rfl, fun _ _ _ _ => rfl⟩
