/-! TEXTS: the class's methods are that stack -/
def TS (M : am_M) (s : sy_S) : Prop := M 52 1 = nI s.1.length ∧ M 52 4 = nI s.2.1.length ∧ M 52 5 = nI s.2.2.1 ∧ M 52 6 = nI s.2.2.2.1 ∧ M 52 7 = (bif s.2.2.2.2 then nI 1 else nI 0) ∧ (∀ i v, s.1[i]? = some v → M 53 i = v) ∧ (∀ i v, s.2.1.reverse[i]? = some v → M 55 i = v)
def F3 (M M' : am_M) : Prop := ∀ a, a ≠ 52 → a ≠ 53 → a ≠ 55 → M' a = M a
theorem F3_tr {M M1 M2 : am_M} (h : F3 M M1) (h2 : F3 M1 M2) : F3 M M2 := fun a h52 h53 h55 => (h2 a h52 h53 h55).trans (h a h52 h53 h55)
def co : List Int32 → Nat
  | [] => 0
  | s :: l => (if s = nI 33 ∨ s = nI 40 then 1 else 0) + co l
theorem c_strengthOf (d : Nat) (c : Int32) (M : am_M) : am_call (d + 1) i10_strengthOf [.int c] M = some (some (.int (nI (stn c))), M) := by
  rw [ec10_strengthOf]
  by_cases h33 : c = nI 33
  · rw [if_pos h33, h33, show stn (nI 33) = 6 by decide +kernel]
  · rw [if_neg h33]
    by_cases h37 : c = nI 37
    · rw [if_pos h37, h37, stn_37]
    · rw [if_neg h37]
      by_cases h38 : c = nI 38
      · rw [if_pos h38, h38, stn_38]
      · rw [if_neg h38]
        by_cases h42 : c = nI 42
        · rw [if_pos h42, h42, stn_42]
        · rw [if_neg h42]
          by_cases h43 : c = nI 43
          · rw [if_pos h43, h43, stn_43]
          · rw [if_neg h43]
            by_cases h45 : c = nI 45
            · rw [if_pos h45, h45, stn_45]
            · rw [if_neg h45]
              by_cases h47 : c = nI 47
              · rw [if_pos h47, h47, stn_47]
              · rw [if_neg h47]
                by_cases h60 : c = nI 60
                · rw [if_pos h60, h60, stn_60]
                · rw [if_neg h60]
                  by_cases h61 : c = nI 61
                  · rw [if_pos h61, h61, stn_61]
                  · rw [if_neg h61]
                    by_cases h62 : c = nI 62
                    · rw [if_pos h62, h62, stn_62]
                    · rw [if_neg h62]
                      by_cases h124 : c = nI 124
                      · rw [if_pos h124, h124, stn_124]
                      · rw [if_neg h124]
                        unfold stn
                        simp only [h33, h37, h38, h42, h43, h45, h47, h60, h61, h62, h124, or_self, if_false]
theorem c_add (d : Nat) (M : am_M) (cs st : List Int32) (o g : Nat) (due : Bool) (x : Int32) (h : TS M (cs, st, o, g, due)) (hl : cs.length < 50) : ∃ M', am_call (d + 1) i10_add [.ref 52, .int x] M = some (none, M') ∧ TS M' (cs ++ [x], st, o, g, due) ∧ F3 M M' := by
  obtain ⟨h1, h4, h5, h6, h7, hc, hs⟩ := h
  refine ⟨_, by rw [ec10_add, h1]; simp (disch := omega) only [false_or, nle9, nI_dec9, nI_add, pk_mul, pk_sub, nI_clamp, nI_in9, nI_pos9, nI_lt9, nI_le9, nI_eq9, nI_eq09, nI_le09, am_k_m1, if_true, if_false, ite_not, Classical.not_not]; rw [if_pos hl], ⟨?_, ?_, ?_, ?_, ?_, ?_, ?_⟩, ?_⟩
  · simp (disch := omega) only [am_up, stc_eq, stc_ne, upd_eq, h1, nI_add]
    simp
  · simp (disch := omega) only [am_up, stc_eq, stc_ne, upd_ne, h4]
  · simp (disch := omega) only [am_up, stc_eq, stc_ne, upd_ne, h5]
  · simp (disch := omega) only [am_up, stc_eq, stc_ne, upd_ne, h6]
  · simp (disch := omega) only [am_up, stc_eq, stc_ne, upd_ne, h7]
  · intro i v hi
    simp (disch := omega) only [am_up, stc_eq, stc_ne]
    dsimp only at hi
    by_cases c : i = cs.length
    · subst c
      rw [upd_eq]
      rw [List.getElem?_append_right (Nat.le_refl _), Nat.sub_self] at hi
      exact Option.some.inj hi
    · rw [upd_ne c]
      have hlt := (List.getElem?_eq_some_iff.mp hi).1
      rw [List.length_append, List.length_singleton] at hlt
      rw [List.getElem?_append_left (by omega)] at hi
      exact hc i v hi
  · intro i v hi
    simp (disch := omega) only [am_up, stc_eq, stc_ne]
    exact hs i v hi
  · intro a h52 h53 h55
    simp only [am_up]
    rw [stc_ne h52, stc_ne h53]
theorem c_hold (d : Nat) (M : am_M) (cs st : List Int32) (o g : Nat) (due : Bool) (x : Int32) (h : TS M (cs, st, o, g, due)) (hl : st.length < 50) : ∃ M', am_call (d + 1) i10_hold [.ref 52, .int x] M = some (none, M') ∧ TS M' (cs, x :: st, o, g, due) ∧ F3 M M' := by
  obtain ⟨h1, h4, h5, h6, h7, hc, hs⟩ := h
  refine ⟨_, by rw [ec10_hold, h4]; simp (disch := omega) only [false_or, nle9, nI_dec9, nI_add, pk_mul, pk_sub, nI_clamp, nI_in9, nI_pos9, nI_lt9, nI_le9, nI_eq9, nI_eq09, nI_le09, am_k_m1, if_true, if_false, ite_not, Classical.not_not]; rw [if_pos hl], ⟨?_, ?_, ?_, ?_, ?_, ?_, ?_⟩, ?_⟩
  · simp (disch := omega) only [am_up, stc_eq, stc_ne, upd_ne, h1]
  · simp (disch := omega) only [am_up, stc_eq, stc_ne, upd_eq, h4, nI_add]
    simp
  · simp (disch := omega) only [am_up, stc_eq, stc_ne, upd_ne, h5]
  · simp (disch := omega) only [am_up, stc_eq, stc_ne, upd_ne, h6]
  · simp (disch := omega) only [am_up, stc_eq, stc_ne, upd_ne, h7]
  · intro i v hi
    simp (disch := omega) only [am_up, stc_eq, stc_ne]
    exact hc i v hi
  · intro i v hi
    simp (disch := omega) only [am_up, stc_eq, stc_ne]
    dsimp only at hi
    rw [List.reverse_cons] at hi
    by_cases c : i = st.length
    · subst c
      rw [upd_eq]
      rw [List.getElem?_append_right (by simp), List.length_reverse, Nat.sub_self] at hi
      exact Option.some.inj hi
    · rw [upd_ne c]
      have hlt := (List.getElem?_eq_some_iff.mp hi).1
      rw [List.length_append, List.length_singleton, List.length_reverse] at hlt
      rw [List.getElem?_append_left (by rw [List.length_reverse]; omega)] at hi
      exact hs i v hi
  · intro a h52 h53 h55
    simp only [am_up]
    rw [stc_ne h52, stc_ne h55]
