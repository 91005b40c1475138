/-! copies of shelves and desks; what is laid aside; the whole state of both sides -/
theorem cpyE (f g : Nat → Int32) (n : Nat) (hn : n < 2147483648) : va_cpy f g (nI 0).toNatClampNeg (nI 0).toNatClampNeg (nI n).toNatClampNeg = fun j => if j < n then f j else g j := by
  funext j
  rw [nI_clamp (by omega), nI_clamp (by omega)]
  by_cases c : j < n
  · rw [pk_cpy_in (Nat.zero_le _) (by omega), if_pos c, Nat.zero_add, Nat.sub_zero]
  · rw [pk_cpy_out (by omega), if_neg c]
theorem nar_0 : vp_nar .boolean (nI 0) = nI 0 := by decide +kernel
theorem nar_1 : vp_nar .boolean (nI 1) = nI 1 := by decide +kernel
theorem c_copyFrom_l (d t u nb ng : Nat) (ht : (t = 16 ∧ u = 9) ∨ (t = 23 ∧ u = 9) ∨ (t = 9 ∧ u = 16)) (S : Nat → Int32) (hW : WS S nb ng) (M0 : am_M) (hR : RS M0 u S nb) : ∀ (k i : Nat) (M : am_M), i + k = 6 → Ch [t + 1, t + 2, t + 3] M0 M → (∀ j, j < 6 → M (t + 1) j = M0 (u + 1) j ∧ M (t + 2) j = M0 (u + 2) j) → (∀ j, j < i → M (t + 3) j = M0 (u + 3) j) → ∃ M', am_lim (am_call d) (am_R i8_copyFrom) (am_tx i8_copyFrom) 32 [.ref t, .ref u, .int (nI i)] [] M = some (none, M') ∧ RS M' t S nb ∧ Ch [t, t + 1, t + 2, t + 3, t + 4, t + 5] M0 M'
  | 0, i, M, h, hC, h12, h3 => by
    have : i = 6 := by omega
    subst this
    have hn := hW.2.1
    rw [sg8_copyFrom_32 _ t u ht, if_neg (by decide +kernel)]
    refine ⟨_, rfl, ?_, ?_⟩
    · obtain ⟨r1, r2, r3, r4, r5, r6⟩ := hR
      have hC' : ∀ a, a ≠ t + 1 → a ≠ t + 2 → a ≠ t + 3 → M a = M0 a := fun a h1 h2 h3 => hC a (by simp [h1, h2, h3])
      refine ⟨?_, ?_, fun b hb => ⟨?_, ?_, ?_, fun p hp => ?_⟩, fun q hq => ?_, fun b hb h6 => ?_, fun b hb h6 p hp => ?_⟩
      · simp (disch := omega) only [au_s, au_j, au_b, stc_ne]
        rw [hC' u (by omega) (by omega) (by omega)]; exact r1
      · simp (disch := omega) only [au_s, au_j, au_b, stc_ne]
        rw [hC' u (by omega) (by omega) (by omega)]; exact r2
      · simp (disch := omega) only [au_s, au_j, au_b, stc_ne]
        rw [(h12 b (by omega)).1]; exact (r3 b hb).1
      · simp (disch := omega) only [au_s, au_j, au_b, stc_ne]
        rw [(h12 b (by omega)).2]; exact (r3 b hb).2.1
      · simp (disch := omega) only [au_s, au_j, au_b, stc_ne]
        rw [h3 b (by omega)]; exact (r3 b hb).2.2.1
      · simp (disch := omega) only [au_s, au_j, au_b, stc_ne, stc_eq, cpyE]
        rw [if_pos (by omega), hC' (u + 4) (by omega) (by omega) (by omega)]; exact (r3 b hb).2.2.2 p hp
      · simp (disch := omega) only [au_s, au_j, au_b, stc_ne, stc_eq, cpyE]
        rw [if_pos (by omega), hC' (u + 5) (by omega) (by omega) (by omega)]; exact r4 q hq
      · simp (disch := omega) only [au_s, au_j, au_b, stc_ne]
        rw [h3 b h6]; exact r5 b hb h6
      · simp (disch := omega) only [au_s, au_j, au_b, stc_ne, stc_eq, cpyE]
        rw [if_pos (by omega), hC' (u + 4) (by omega) (by omega) (by omega)]; exact r6 b hb h6 p hp
    · refine Ch_tr (Ch_mo hC (by simp)) ?_
      refine Ch_tr (Ch_tr (Ch_tr (Ch_sc ?_) (Ch_sc ?_)) (Ch_up ?_)) (Ch_up ?_) <;> simp
  | k + 1, i, M, h, hC, h12, h3 => by
    have hn := hW.2.1
    rw [sg8_copyFrom_32 _ t u ht]
    simp (disch := omega) only [false_or, nle9, nI_dec9, nI_add, pk_mul, pk_sub, nI_clamp, nI_in9, nI_pos9, nI_lt9, nI_le9, nI_eq9, nI_eq09, nI_le09, am_k_m1, if_true, if_false, ite_not, Classical.not_not]
    rw [if_pos (by omega)]
    refine c_copyFrom_l d t u nb ng ht S hW M0 hR k (i + 1) _ (by omega) (Ch_tr hC (Ch_up (by simp))) (fun j hj => by rw [au_b (by omega), au_b (by omega)]; exact h12 j hj) (fun j hj => ?_)
    by_cases c : j = i
    · subst c
      rw [au_s]
      have hC' : M (u + 3) = M0 (u + 3) := hC _ (by simp; omega)
      rw [hC']
      have hz : M0 (u + 3) j = nI 0 ∨ M0 (u + 3) j = nI 1 := by
        by_cases hjn : j < nb
        · rw [(hR.2.2.1 j hjn).2.2.1]; exact (hW.2.2.2.1 j hjn).2.2.1
        · exact Or.inl (hR.2.2.2.2.1 j (by omega) (by omega))
      rcases hz with z | z
      · rw [z, nar_0]
      · rw [z, nar_1]
    · rw [au_j c]
      exact h3 j (by omega)
theorem c_copyFrom (d t u nb ng : Nat) (ht : (t = 16 ∧ u = 9) ∨ (t = 23 ∧ u = 9) ∨ (t = 9 ∧ u = 16)) (S : Nat → Int32) (hW : WS S nb ng) (M : am_M) (hR : RS M u S nb) : ∃ M', am_call (d + 1) i8_copyFrom [.ref t, .ref u] M = some (none, M') ∧ RS M' t S nb ∧ Ch [t, t + 1, t + 2, t + 3, t + 4, t + 5] M M' := by
  rw [ec8_copyFrom _ t u ht]
  refine c_copyFrom_l d t u nb ng ht S hW M hR 6 0 _ (by omega) (Ch_tr (Ch_sc (by simp)) (Ch_sc (by simp))) (fun j hj => ⟨?_, ?_⟩) (fun j hj => by omega)
  · simp (disch := omega) only [stc_ne, stc_eq, cpyE]
    rw [if_pos hj]
  · simp (disch := omega) only [stc_ne, stc_eq, cpyE]
    rw [if_pos hj]
/-- the desk of the class (cell dk) lies in the reference's row -/
def RD (M : am_M) (dk : Nat) (S : Nat → Int32) : Prop := (∃ tl, tl ≤ 50 ∧ S 63 = nI tl) ∧ M dk 1 = S 63 ∧ (∀ i, i < 50 → M (dk + 1) i = S (67 + i)) ∧ M dk 4 = S 62 ∧ (∃ w, w ≤ 20 ∧ S 64 = nI w) ∧ M dk 6 = S 64 ∧ (∀ i, i < 20 → M (dk + 2) i = S (217 + i)) ∧ TR (M (dk + 3)) (M (dk + 4)) S 0 ∧ TR (M (dk + 7)) (M (dk + 8)) S 1
theorem TR_cp {f g f' g' S : Nat → Int32} {use : Nat} (h : TR f g S use) (hf : f' 1 = f 1) (hg : ∀ i, i < 50 → g' i = g i) : TR f' g' S use := by
  rcases h with ⟨h1, h2⟩ | ⟨n, code, hn, h1, h2, h3, h4, h5, h6⟩
  · exact Or.inl ⟨h1, hf.trans h2⟩
  · refine Or.inr ⟨n, code, hn, h1, h2, hf.trans h3, h4, h5, fun i v hi => ?_⟩
    have := (List.getElem?_eq_some_iff.mp hi).1
    rw [hg i (by omega)]
    exact h6 i v hi
theorem c_textCopy (d x y : Nat) (hx : (x = 33 ∧ y = 52) ∨ (x = 37 ∧ y = 52) ∨ (x = 44 ∧ y = 33) ∨ (x = 48 ∧ y = 37) ∨ (x = 33 ∧ y = 44) ∨ (x = 37 ∧ y = 48)) (M : am_M) : ∃ M', am_call (d + 1) i10_copyFrom [.ref x, .ref y] M = some (none, M') ∧ Ch [x, x + 1] M M' ∧ M' x 1 = M y 1 ∧ (∀ i, i < 50 → M' (x + 1) i = M (y + 1) i) ∧ ∀ j, j ≠ 1 → M' x j = M x j := by
  rw [ec10_copyFrom _ x y hx]
  refine ⟨_, rfl, Ch_tr (Ch_sc (by simp)) (Ch_up (by simp)), ?_, fun i hi => ?_, fun j hj => ?_⟩
  · simp (disch := omega) only [au_s, stc_ne]
  · simp (disch := omega) only [au_b, stc_eq, cpyE]
    rw [if_pos hi]
  · simp (disch := omega) only [au_j, stc_ne]
theorem c_deskCopy (d t u : Nat) (ht : (t = 41 ∧ u = 30) ∨ (t = 30 ∧ u = 41)) (S : Nat → Int32) (M : am_M) (hR : RD M u S) : ∃ M', am_call (d + 2) i1_copyFrom [.ref t, .ref u] M = some (none, M') ∧ RD M' t S ∧ Ch [t, t + 1, t + 2, t + 3, t + 4, t + 7, t + 8] M M' := by
  obtain ⟨r1, r2, r3, r4, r5, r6, r7, r8, r9⟩ := hR
  rw [ec1_copyFrom _ t u ht]
  obtain ⟨M1, a1, a2, a3, a4, -⟩ := c_textCopy d (t + 3) (u + 3) (by omega) (am_up (am_setc M (t + 1) (va_cpy (M (u + 1)) (M (t + 1)) ((nI 0).toNatClampNeg) ((nI 0).toNatClampNeg) ((nI 50).toNatClampNeg))) t 1 ((am_setc M (t + 1) (va_cpy (M (u + 1)) (M (t + 1)) ((nI 0).toNatClampNeg) ((nI 0).toNatClampNeg) ((nI 50).toNatClampNeg))) u 1))
  rw [a1]
  simp only [Option.bind_some, Option.toList_some, Option.toList_none, List.cons_append, List.nil_append, bi_eq0, bi_eq1, bi_nem, if_true, if_false, ite_not, Classical.not_not, sg1_copyFrom_34 _ t u ht]
  obtain ⟨M2, b1, b2, b3, b4, -⟩ := c_textCopy d (t + 7) (u + 7) (by omega) M1
  rw [b1]
  simp only [Option.bind_some, Option.toList_some, Option.toList_none, List.cons_append, List.nil_append, bi_eq0, bi_eq1, bi_nem, if_true, if_false, ite_not, Classical.not_not, sg1_copyFrom_45 _ t u ht]
  have a2' : ∀ a, a ≠ t + 3 → a ≠ t + 3 + 1 → M1 a = _ := fun a h1 h2 => a2 a (by simp [h1, h2])
  have b2' : ∀ a, a ≠ t + 7 → a ≠ t + 7 + 1 → M2 a = M1 a := fun a h1 h2 => b2 a (by simp [h1, h2])
  refine ⟨_, rfl, ⟨r1, ?_, fun i hi => ?_, ?_, r5, ?_, fun i hi => ?_, TR_cp r8 ?_ (fun i hi => ?_), TR_cp r9 ?_ (fun i hi => ?_)⟩, ?_⟩
  · simp (disch := omega) only [au_s, au_j, au_b, stc_ne]
    rw [b2' t (by omega) (by omega), a2' t (by omega) (by omega)]
    simp (disch := omega) only [au_s, au_j, au_b, stc_ne]
    exact r2
  · simp (disch := omega) only [au_s, au_j, au_b, stc_ne]
    rw [b2' (t + 1) (by omega) (by omega), a2' (t + 1) (by omega) (by omega)]
    simp (disch := omega) only [au_s, au_j, au_b, stc_ne, stc_eq, cpyE]
    rw [if_pos hi]
    exact r3 i hi
  · simp (disch := omega) only [au_s, au_j, au_b, stc_ne]
    rw [b2' u (by omega) (by omega), a2' u (by omega) (by omega)]
    simp (disch := omega) only [au_s, au_j, au_b, stc_ne]
    exact r4
  · simp (disch := omega) only [au_s, au_j, au_b, stc_ne]
    rw [b2' u (by omega) (by omega), a2' u (by omega) (by omega)]
    simp (disch := omega) only [au_s, au_j, au_b, stc_ne]
    exact r6
  · simp (disch := omega) only [au_s, au_j, au_b, stc_ne, stc_eq, cpyE]
    rw [if_pos hi, b2' (u + 2) (by omega) (by omega), a2' (u + 2) (by omega) (by omega)]
    simp (disch := omega) only [au_s, au_j, au_b, stc_ne]
    exact r7 i hi
  · simp (disch := omega) only [au_s, au_j, au_b, stc_ne]
    rw [b2' (t + 3) (by omega) (by omega), a3]
    simp (disch := omega) only [au_s, au_j, au_b, stc_ne]
  · simp (disch := omega) only [au_s, au_j, au_b, stc_ne]
    rw [b2' (t + 4) (by omega) (by omega), show t + 4 = t + 3 + 1 from rfl, a4 i hi]
    simp (disch := omega) only [au_s, au_j, au_b, stc_ne]
  · simp (disch := omega) only [au_s, au_j, au_b, stc_ne]
    rw [b3, a2' (u + 7) (by omega) (by omega)]
    simp (disch := omega) only [au_s, au_j, au_b, stc_ne]
  · simp (disch := omega) only [au_s, au_j, au_b, stc_ne]
    rw [show t + 8 = t + 7 + 1 from rfl, b4 i hi, show u + 7 + 1 = u + 8 from rfl, a2' (u + 8) (by omega) (by omega)]
    simp (disch := omega) only [au_s, au_j, au_b, stc_ne]
  · refine Ch_tr (Ch_tr (Ch_tr (Ch_sc (by simp)) (Ch_up (by simp))) (Ch_mo a2 (by simp))) (Ch_tr (Ch_mo b2 (by simp)) (Ch_tr (Ch_tr (Ch_up (by simp)) (Ch_sc (by simp))) (Ch_up (by simp))))
/-! what the reference lays aside -/
def AS (M : am_M) (S : Nat → Int32) : Prop := ∀ j, j < 62 → M 71 j = S j
theorem m_lays_l (d : Nat) (S : Nat → Int32) : ∀ (k i : Nat) (M : am_M), i + k = 62 → M 69 = S → (∀ j, j < i → M 71 j = S j) → ∃ M', am_lim (am_call d) (am_R i12_laysAside) (am_tx i12_laysAside) 2 [.ref 68, .int (nI i)] [] M = some (none, M') ∧ AS M' S ∧ J6 [71] M M'
  | 0, i, M, h, hM, hA => by
    have : i = 62 := by omega
    subst this
    rw [sg12_laysAside_2, if_neg (by decide +kernel)]
    exact ⟨M, rfl, hA, J6_rf⟩
  | k + 1, i, M, h, hM, hA => by
    rw [sg12_laysAside_2]
    simp (disch := omega) only [false_or, nle9, nI_dec9, nI_add, pk_mul, pk_sub, nI_clamp, nI_in9, nI_pos9, nI_lt9, nI_le9, nI_eq9, nI_eq09, nI_le09, am_k_m1, if_true, if_false, ite_not, Classical.not_not]
    rw [if_pos (by omega)]
    obtain ⟨M2, b1, b2, b3⟩ := m_lays_l d S k (i + 1) (am_up M 71 i (M 69 i)) (by omega) (by rw [au_b (by decide)]; exact hM) (fun j hj => by
      by_cases c : j = i
      · subst c; rw [au_s, hM]
      · rw [au_j c]; exact hA j (by omega))
    exact ⟨M2, b1, b2, J6_tr (J6_up (by simp) (by decide)) b3⟩
theorem m_lays (d : Nat) (M : am_M) : ∃ M', am_call (d + 1) i12_laysAside [.ref 68] M = some (none, M') ∧ AS M' (M 69) ∧ J6 [71] M M' := by
  rw [ec12_laysAside]
  exact m_lays_l d (M 69) 62 0 M (by omega) rfl (fun j hj => by omega)
theorem m_back_l (d : Nat) (v : Int32) (S : Nat → Int32) : ∀ (k i : Nat) (M : am_M), i + k = 62 → AS M S → (∀ j, 62 ≤ j → M 69 j = S j) → (∀ j, j < i → M 69 j = S j) → ∃ M', am_lim (am_call d) (am_R i12_takesBack) (am_tx i12_takesBack) 2 [.ref 68, .int v, .int (nI i)] [] M = some (some (.int v), M') ∧ M' 69 = S ∧ J6 [69] M M'
  | 0, i, M, h, hA, hS, hi => by
    have : i = 62 := by omega
    subst this
    rw [sg12_takesBack_2, if_neg (by decide +kernel)]
    refine ⟨M, rfl, funext fun j => ?_, J6_rf⟩
    by_cases c : j < 62
    · exact hi j c
    · exact hS j (by omega)
  | k + 1, i, M, h, hA, hS, hi => by
    rw [sg12_takesBack_2]
    simp (disch := omega) only [false_or, nle9, nI_dec9, nI_add, pk_mul, pk_sub, nI_clamp, nI_in9, nI_pos9, nI_lt9, nI_le9, nI_eq9, nI_eq09, nI_le09, am_k_m1, if_true, if_false, ite_not, Classical.not_not]
    rw [if_pos (by omega)]
    obtain ⟨M2, b1, b2, b3⟩ := m_back_l d v S k (i + 1) (am_up M 69 i (M 71 i)) (by omega) (fun j hj => by rw [au_b (by decide)]; exact hA j hj) (fun j hj => by rw [au_j (by omega)]; exact hS j hj) (fun j hj => by
      by_cases c : j = i
      · subst c; rw [au_s]; exact hA j (by omega)
      · rw [au_j c]; exact hi j (by omega))
    exact ⟨M2, b1, b2, J6_tr (J6_up (by simp) (by decide)) b3⟩
theorem m_back (d : Nat) (v : Int32) (S : Nat → Int32) (M : am_M) (hA : AS M S) (hS : ∀ j, 62 ≤ j → M 69 j = S j) : ∃ M', am_call (d + 1) i12_takesBack [.ref 68, .int v] M = some (some (.int v), M') ∧ M' 69 = S ∧ J6 [69] M M' := by
  rw [ec12_takesBack]
  exact m_back_l d v S 62 0 M (by omega) hA hS (fun j hj => by omega)
theorem AS_J {L : List Nat} {M M' : am_M} {S : Nat → Int32} (h : AS M S) (hj : J6 L M M') (h71 : 71 ∉ L) : AS M' S := fun j hj' => by
  rw [hj.1 71 h71 (by decide)]
  exact h j hj'
