/-! TEXTS: the class's reading is the one stack's -/
def sJ (i : Nat) (s : sy_S) : Prop := s.1.length + s.2.1.length ≤ i ∧ co s.2.1 ≤ s.2.2.1 ∧ s.2.2.1 ≤ 5 ∧ s.2.2.2.1 ≤ 4 ∧ ∀ q ∈ s.2.1, 1 ≤ stn q ∨ q = nI 40
theorem sy_J {i use : Nat} {c : Int32} {s s' : sy_S} (h : sJ i s) (hs : syStep use c s = some s') : sJ (i + 1) s' := by
  obtain ⟨cs, st, o, g, due⟩ := s
  obtain ⟨i1, i2, i3, i4, i5⟩ := h
  dsimp only at i1 i2 i3 i4 i5
  unfold syStep at hs
  cases due with
  | true =>
    rw [if_pos rfl] at hs
    unfold syB at hs
    dsimp only at hs
    by_cases h1 : c = nI 33 ∨ c = nI 40
    · rw [if_pos h1] at hs
      by_cases h2 : o < 5
      · rw [if_pos h2] at hs
        cases hs
        have hco : co (c :: st) = 1 + co st := by
          show (if c = nI 33 ∨ c = nI 40 then 1 else 0) + co st = _
          rw [if_pos h1]
        refine ⟨by show cs.length + (st.length + 1) ≤ i + 1; omega, by show co (c :: st) ≤ o + 1; omega, by show o + 1 ≤ 5; omega, i4, fun q hq => ?_⟩
        rcases List.mem_cons.mp hq with z | z
        · subst z
          rcases h1 with z | z
          · left; rw [z]; decide +kernel
          · right; exact z
        · exact i5 q z
      · rw [if_neg h2] at hs; cases hs
    · rw [if_neg h1] at hs
      by_cases h2 : 48 ≤ c.toInt ∧ c.toInt < 58
      · rw [if_pos h2] at hs
        cases hs
        exact ⟨by show (cs ++ [c - nI 48]).length + st.length ≤ i + 1; simp; omega, i2, i3, by show 1 ≤ 4; omega, i5⟩
      · rw [if_neg h2] at hs
        by_cases h3 : 0 < nmx use c
        · rw [if_pos h3] at hs
          cases hs
          exact ⟨by show (cs ++ [_]).length + st.length ≤ i + 1; simp; omega, i2, i3, by show 0 ≤ 4; omega, i5⟩
        · rw [if_neg h3] at hs; cases hs
  | false =>
    rw [if_neg (show ¬ (false = true) by decide)] at hs
    unfold syF at hs
    dsimp only at hs
    by_cases h1 : 48 ≤ c.toInt ∧ c.toInt < 58
    · rw [if_pos h1] at hs
      by_cases h2 : g < 1 ∨ 4 ≤ g ∨ cs.length < 1
      · rw [if_pos h2] at hs; cases hs
      · rw [if_neg h2] at hs
        cases hs
        exact ⟨by show (cs.dropLast ++ [_]).length + st.length ≤ i + 1; simp; omega, i2, i3, by show g + 1 ≤ 4; omega, i5⟩
    · rw [if_neg h1] at hs
      by_cases h41 : c = nI 41
      · rw [if_pos h41] at hs
        obtain ⟨v1, v2, v3⟩ := setl_inv 1 st cs o i2
        have hm := setl_mem 1 st cs o
        have ht := setl_top 1 st cs o
        generalize setl 1 st cs o = t at hs v1 v2 v3 hm ht
        obtain ⟨tc, ts, to⟩ := t
        dsimp only at v1 v2 v3 hm ht
        unfold syCl at hs
        cases ts with
        | nil => cases hs
        | cons q ts =>
          cases hs
          have hq : q = nI 40 := by
            rcases i5 q (hm q List.mem_cons_self) with z | z
            · have := ht q rfl; omega
            · exact z
          have hco : co (q :: ts) = 1 + co ts := by
            show (if q = nI 33 ∨ q = nI 40 then 1 else 0) + co ts = _
            rw [if_pos (Or.inr hq)]
          have hlen : (q :: ts).length = ts.length + 1 := rfl
          exact ⟨by show tc.length + ts.length ≤ i + 1; omega, by show co ts ≤ to - 1; omega, by show to - 1 ≤ 5; omega, by show 0 ≤ 4; omega, fun z hz => i5 z (hm z (List.mem_cons_of_mem _ hz))⟩
      · rw [if_neg h41] at hs
        by_cases h2 : stn c < 1 ∨ 5 < stn c
        · rw [if_pos h2] at hs; cases hs
        · rw [if_neg h2] at hs
          generalize (if stn c = 3 then 4 else stn c) = k at hs
          obtain ⟨v1, v2, v3⟩ := setl_inv k st cs o i2
          have hm := setl_mem k st cs o
          generalize setl k st cs o = t at hs v1 v2 v3 hm
          obtain ⟨tc, ts, to⟩ := t
          dsimp only at v1 v2 v3 hm
          have hc33 : ¬ (c = nI 33 ∨ c = nI 40) := by
            rintro (z | z)
            · rw [z] at h2; exact h2 (by decide +kernel)
            · rw [z] at h2; exact h2 (by decide +kernel)
          have hco : co (c :: ts) = co ts := by
            show (if c = nI 33 ∨ c = nI 40 then 1 else 0) + co ts = _
            rw [if_neg hc33, Nat.zero_add]
          have hfin : sJ (i + 1) (tc, c :: ts, to, 0, true) := by
            refine ⟨by show tc.length + (ts.length + 1) ≤ i + 1; omega, by show co (c :: ts) ≤ to; omega, by show to ≤ 5; omega, by show 0 ≤ 4; omega, fun z hz => ?_⟩
            rcases List.mem_cons.mp hz with y | y
            · subst y; left; omega
            · exact i5 z (hm z y)
          unfold syF3 at hs
          cases ts with
          | nil => cases hs; exact hfin
          | cons q ts =>
            dsimp only at hs
            by_cases h5 : stn c = 3 ∧ stn q = 3
            · rw [if_pos h5] at hs; cases hs
            · rw [if_neg h5] at hs; cases hs; exact hfin
def RF (M : am_M) (r : am_Res) (x : Nat ⊕ List Int32) : Prop := match x with
  | .inl f => ∃ M', r = some (some (.int (nI f)), M') ∧ F3 M M'
  | .inr cs => ∃ M', r = some (some (.int (-1)), M') ∧ F3 M M' ∧ M' 52 1 = nI cs.length ∧ cs.length ≤ 50 ∧ ∀ i v, cs[i]? = some v → M' 53 i = v
theorem RF_F {M M0 : am_M} {r : am_Res} {x : Nat ⊕ List Int32} (h0 : F3 M0 M) (h : RF M r x) : RF M0 r x := by
  cases x with
  | inl f => obtain ⟨M', a, b⟩ := h; exact ⟨M', a, F3_tr h0 b⟩
  | inr cs => obtain ⟨M', a, b, c⟩ := h; exact ⟨M', a, F3_tr h0 b, c⟩
theorem c_read_l (d n use : Nat) (b : Nat → Int32) (hn : n ≤ 50) (hu : use ≤ 1) : ∀ (k i : Nat) (s : sy_S) (w : Value) (M : am_M), i + k = n → TS M s → sJ i s → (∀ j, j < n → M 31 j = b j) → RF M (am_lim (am_call (d + 4)) (am_R i10_readFrom) (am_tx i10_readFrom) 28 [.ref 52, .ref 31, .int (nI n), .int (nI use), .int (nI i), w] [] M) (syG b n use k s)
  | 0, i, s, w, M, hk, hT, hJ, hb => by
    have : i = n := by omega
    subst this
    obtain ⟨cs, st, o, g, due⟩ := s
    have hT0 := hT
    obtain ⟨j1, j2, j3, j4, j5⟩ := hJ
    dsimp only at j1 j2 j3 j4 j5
    rw [sg10_readFrom_28]
    simp (disch := omega) only [false_or, nle9, nI_dec9, nI_add, pk_mul, pk_sub, nI_clamp, nI_in9, nI_pos9, nI_lt9, nI_le9, nI_eq9, nI_eq09, nI_le09, am_k_m1, if_true, if_false, ite_not, Classical.not_not]
    rw [if_neg (by omega)]
    obtain ⟨M1, a1, a2, a3⟩ := c_settle (d + 2) 1 (by decide) st cs o g due M hT0 (by omega) j2 j3
    obtain ⟨v1, v2, v3⟩ := setl_inv 1 st cs o j2
    rw [a1]
    simp only [Option.bind_some, Option.toList_some, Option.toList_none, List.cons_append, List.nil_append, bi_eq0, bi_eq1, bi_nem, if_true, if_false, ite_not, Classical.not_not, sg10_readFrom_82]
    unfold syG syEnd
    dsimp only
    generalize setl 1 st cs o = t at a2 v1 v2 v3
    obtain ⟨tc, ts, to⟩ := t
    dsimp only at a2 v1 v2 v3 ⊢
    obtain ⟨h1, h4, h5, h6, h7, hc, hs⟩ := a2
    dsimp only at h1 h4 h7 hc
    rw [h7, h4]
    cases due with
    | true =>
      rw [if_pos (Or.inl rfl), if_neg (by decide +kernel)]
      exact ⟨M1, rfl, a3⟩
    | false =>
      rw [if_pos (by decide +kernel)]
      cases ts with
      | nil =>
        rw [if_pos (by decide +kernel), if_neg (by rintro (z | z); exact absurd z (by decide); exact z rfl), am_k_m1]
        exact ⟨M1, rfl, a3, h1, by simp at v1; omega, hc⟩
      | cons q ts =>
        have hlen : (q :: ts).length = ts.length + 1 := rfl
        rw [if_neg (by rw [nI_le09 (by omega)]; omega), if_pos (Or.inr (by simp))]
        exact ⟨M1, rfl, a3⟩
  | k + 1, i, s, w, M, hk, hT, hJ, hb => by
    have hi : n - (k + 1) = i := by omega
    obtain ⟨cs, st, o, g, due⟩ := s
    have hT0 := hT
    have hJ0 := hJ
    obtain ⟨j1, j2, j3, j4, j5⟩ := hJ
    dsimp only at j1 j2 j3 j4 j5
    obtain ⟨h1, h4, h5, h6, h7, hc, hs⟩ := hT
    dsimp only at h7
    have hI : ∀ dd, sI (cs, st, o, g, dd) := fun dd => ⟨by show cs.length + st.length ≤ 50; omega, j2, j3, j4, j5⟩
    rw [sg10_readFrom_28]
    simp (disch := omega) only [false_or, nle9, nI_dec9, nI_add, pk_mul, pk_sub, nI_clamp, nI_in9, nI_pos9, nI_lt9, nI_le9, nI_eq9, nI_eq09, nI_le09, am_k_m1, if_true, if_false, ite_not, Classical.not_not]
    rw [if_pos (by omega), h7, hb i (by omega)]
    have hgo : ∀ (r : am_Res), CR M r (syStep use (b i) (cs, st, o, g, due)) → RF M (r.bind (fun q => am_lim (am_call (d + 4)) (am_R i10_readFrom) (am_tx i10_readFrom) 61 [.ref 52, .ref 31, .int (nI n), .int (nI use), .int (nI i), w] (q.1.toList ++ []) q.2)) (syG b n use (k + 1) (cs, st, o, g, due)) := by
      intro r hr
      unfold syG
      rw [hi]
      cases hz : syStep use (b i) (cs, st, o, g, due) with
      | none =>
        rw [hz] at hr
        obtain ⟨M1, a1, a2⟩ := hr
        rw [a1]
        simp only [Option.bind_some, Option.toList_some, Option.toList_none, List.cons_append, List.nil_append, bi_eq0, bi_eq1, bi_nem, if_true, if_false, ite_not, Classical.not_not, sg10_readFrom_61]
        rw [if_pos nI_0]
        exact ⟨M1, rfl, a2⟩
      | some s' =>
        rw [hz] at hr
        obtain ⟨M1, a1, a2, a3⟩ := hr
        rw [a1]
        simp only [Option.bind_some, Option.toList_some, Option.toList_none, List.cons_append, List.nil_append, bi_eq0, bi_eq1, bi_nem, if_true, if_false, ite_not, Classical.not_not, sg10_readFrom_61]
        rw [if_neg (by decide +kernel), nI_add]
        exact RF_F a3 (c_read_l d n use b hn hu k (i + 1) s' _ M1 (by omega) a2 (sy_J hJ0 hz) (fun j hj => by rw [a3 31 (by decide) (by decide) (by decide)]; exact hb j hj))
    cases due with
    | true =>
      rw [if_neg (by decide +kernel)]
      have hB := c_beginsQ (d + 2) cs st o g (b i) use hu M hT0 (hI true) (by omega)
      have e : ∀ q : Option Value × am_M, (∀ z, q.1 = some (.int z) → am_lim (am_call (d + 4)) (am_R i10_readFrom) (am_tx i10_readFrom) 50 [.ref 52, .ref 31, .int (nI n), .int (nI use), .int (nI i), w] [.int z] q.2 = am_lim (am_call (d + 4)) (am_R i10_readFrom) (am_tx i10_readFrom) 61 [.ref 52, .ref 31, .int (nI n), .int (nI use), .int (nI i), w] [.int z] q.2) := fun q z _ => sg10_readFrom_50 _ _ _ _ _ _ _
      have hst : syStep use (b i) (cs, st, o, g, true) = syB use (b i) (cs, st, o, g, true) := by unfold syStep; rw [if_pos rfl]
      have hx := hgo _ (by rw [hst]; exact hB)
      have hcr := hB
      have hval : ∃ z M1, am_call (d + 2 + 2) i10_beginsQ [.ref 52, .int (b i), .int (nI use)] M = some (some (.int z), M1) := by
        cases hz : syB use (b i) (cs, st, o, g, true) with
        | none => rw [hz] at hcr; obtain ⟨M1, a1, -⟩ := hcr; exact ⟨_, M1, a1⟩
        | some s' => rw [hz] at hcr; obtain ⟨M1, a1, -⟩ := hcr; exact ⟨_, M1, a1⟩
      obtain ⟨z, M1, hv⟩ := hval
      rw [hv] at hx
      change RF M ((am_call (d + 2 + 2) i10_beginsQ [.ref 52, .int (b i), .int (nI use)] M).bind _) _
      rw [hv]
      simp only [Option.bind_some, Option.toList_some, Option.toList_none, List.cons_append, List.nil_append, bi_eq0, bi_eq1, bi_nem, if_true, if_false, ite_not, Classical.not_not, sg10_readFrom_50] at hx ⊢
      exact hx
    | false =>
      rw [if_pos (by decide +kernel)]
      have hF := c_followsQ d cs st o g (b i) M hT0 (hI false) (by omega)
      have hst : syStep use (b i) (cs, st, o, g, false) = syF (b i) (cs, st, o, g, false) := by unfold syStep; rw [if_neg (show ¬ (false = true) by decide)]
      exact hgo _ (by rw [hst]; exact hF)
theorem c_readFrom (d n use : Nat) (b : Nat → Int32) (hn : n ≤ 50) (hu : use ≤ 1) (M : am_M) (hb : ∀ j, j < n → M 31 j = b j) : RF M (am_call (d + 5) i10_readFrom [.ref 52, .ref 31, .int (nI n), .int (nI use)] M) (syG b n use n ([], [], 0, 0, true)) := by
  rw [ec10_readFrom]
  have hF : F3 M (am_up (am_up (am_up (am_up (am_up M 52 1 (nI 0)) 52 4 (nI 0)) 52 5 (nI 0)) 52 6 (nI 0)) 52 7 (nI 1)) := fun a h52 _ _ => by simp only [au_b h52]
  refine RF_F hF (c_read_l d n use b hn hu n 0 _ _ _ (by omega) ⟨?_, ?_, ?_, ?_, ?_, fun i v hi => (by cases hi), fun i v hi => (by cases hi)⟩ ⟨by show 0 + 0 ≤ 0; omega, by show 0 ≤ 0; omega, by show 0 ≤ 5; omega, by show 0 ≤ 4; omega, fun q hq => absurd hq List.not_mem_nil⟩ (fun j hj => ?_))
  · simp (disch := omega) only [au_j, au_s]; rfl
  · simp (disch := omega) only [au_j, au_s]; rfl
  · simp (disch := omega) only [au_j, au_s]
  · simp (disch := omega) only [au_j, au_s]
  · simp (disch := omega) only [au_j, au_s]; rfl
  · rw [hF 31 (by decide) (by decide) (by decide)]
    exact hb j hj
