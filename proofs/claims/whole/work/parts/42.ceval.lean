/-! TEXTS: the class works out what the reference does -/
theorem c_joined (d : Nat) (c a b : Int32) (M : am_M) : am_call (d + 1) i10_joined [.int c, .int a, .int b] M = some (some (.int (jn c a b)), M) := by
  rw [ec10_joined]
  unfold jn
  by_cases h38 : c = nI 38
  · subst h38; simp (disch := omega) only [nI_eq9, Nat.reduceEqDiff, if_true, if_false]; (repeat' split) <;> first | rfl | contradiction
  · by_cases h42 : c = nI 42
    · subst h42; simp (disch := omega) only [nI_eq9, Nat.reduceEqDiff, if_true, if_false]
    · by_cases h43 : c = nI 43
      · subst h43; simp (disch := omega) only [nI_eq9, Nat.reduceEqDiff, if_true, if_false]
      · by_cases h45 : c = nI 45
        · subst h45; simp (disch := omega) only [nI_eq9, Nat.reduceEqDiff, if_true, if_false]
        · by_cases h47 : c = nI 47
          · subst h47; simp (disch := omega) only [nI_eq9, Nat.reduceEqDiff, if_true, if_false]; (repeat' split) <;> first | rfl | contradiction
          · by_cases h60 : c = nI 60
            · subst h60; simp (disch := omega) only [nI_eq9, Nat.reduceEqDiff, if_true, if_false]; (repeat' split) <;> first | rfl | contradiction
            · by_cases h61 : c = nI 61
              · subst h61; simp (disch := omega) only [nI_eq9, Nat.reduceEqDiff, if_true, if_false]; (repeat' split) <;> first | rfl | contradiction
              · by_cases h62 : c = nI 62
                · subst h62; simp (disch := omega) only [nI_eq9, Nat.reduceEqDiff, if_true, if_false]; (repeat' split) <;> first | rfl | contradiction
                · by_cases h124 : c = nI 124
                  · subst h124; simp (disch := omega) only [nI_eq9, Nat.reduceEqDiff, if_true, if_false]; (repeat' split) <;> first | rfl | contradiction
                  · simp only [h38, h42, h43, h45, h47, h60, h61, h62, h124, if_false]; (repeat' split) <;> first | rfl | contradiction
def exN : List Int32 → List Int32
  | [] => []
  | v :: r => (if v = 0 then nI 1 else nI 0) :: r
def exJ (p : Int32) : List Int32 → List Int32
  | [] => []
  | [v] => [v]
  | b :: a :: r => jn (-p) a b :: r
def ex1 (e : Nat → Int32) (p : Int32) (st : List Int32) : List Int32 :=
  if p < am_k (-3) then (if p = am_k (-33) then exN st else exJ p st)
  else (if p < 0 then (if p = am_k (-1) then e 1 else if p = am_k (-2) then e 2 else e 3) else p) :: st
def ex (e : Nat → Int32) : List Int32 → List Int32 → List Int32
  | [], st => st
  | p :: c, st => ex e c (ex1 e p st)
theorem ex_app (e : Nat → Int32) : ∀ (a b st : List Int32), ex e (a ++ b) st = ex e b (ex e a st)
  | [], _, _ => rfl
  | p :: a, b, st => ex_app e a b (ex1 e p st)
def exS (e : Nat → Int32) (cs : List Int32) (v : Int32) : Prop := ∀ st, ex e cs st = v :: st
theorem rdD_v (b : Nat → Int32) (n : Nat) (w : Bool) : ∀ (k j a : Nat), ∃ j', (rdD b n w k (nI j) a).1 = nI j' ∧ j' + 1 ≤ (j + 1) * 10 ^ k
  | 0, j, a => ⟨j, rfl, by omega⟩
  | k + 1, j, a => by
    unfold rdD
    by_cases h : 48 ≤ (hr b n a w).toInt ∧ (hr b n a w).toInt < 58
    · rw [if_pos h]
      obtain ⟨c, hc1, hc2⟩ := i32_of (x := hr b n a w) (n := 58) (by omega) (by omega) (by omega)
      have hc3 : 48 ≤ c := by
        rw [hc2, nI_toInt (by omega)] at h
        omega
      rw [hc2, pk_mul, nI_add, pk_sub (by omega)]
      obtain ⟨j', a1, a2⟩ := rdD_v b n w k (10 * j + c - 48) (a + 1)
      refine ⟨j', a1, Nat.le_trans a2 ?_⟩
      rw [Nat.pow_succ, Nat.mul_comm (10 ^ k) 10, ← Nat.mul_assoc]
      exact Nat.mul_le_mul_right _ (by omega)
    · rw [if_neg h]
      refine ⟨j, rfl, ?_⟩
      exact Nat.le_mul_of_pos_right _ (Nat.pow_pos (by omega))
theorem ex_num (e : Nat → Int32) (j : Nat) (h : j < 2147483648) : exS e [nI j] (nI j) := by
  intro st
  show ex1 e (nI j) st = _
  unfold ex1
  rw [if_neg (by rw [i32_lt, nI_toInt (by omega), am_k_int (by omega) (by omega)]; omega), if_neg (by rw [i32_lt, nI_toInt (by omega), i32_0]; omega)]
theorem nmx_3 (use : Nat) (c : Int32) : nmx use c ≤ 3 := by
  unfold nmx
  (repeat' split) <;> omega
theorem ex_nam (e : Nat → Int32) (k : Nat) (h : k = 1 ∨ k = 2 ∨ k = 3) : exS e [-(nI k)] (e k) := by
  intro st
  show ex1 e (-(nI k)) st = _
  unfold ex1
  rcases h with rfl | rfl | rfl
  · rw [if_neg (by decide +kernel), if_pos (by decide +kernel), if_pos (by decide +kernel)]
  · rw [if_neg (by decide +kernel), if_pos (by decide +kernel), if_neg (by decide +kernel), if_pos (by decide +kernel)]
  · rw [if_neg (by decide +kernel), if_pos (by decide +kernel), if_neg (by decide +kernel), if_neg (by decide +kernel)]
theorem stn_ops {c : Int32} (h : 0 < stn c) (h2 : stn c ≤ 5) : -c < am_k (-3) ∧ -c ≠ am_k (-33) := by
  unfold stn at h h2
  by_cases h124 : c = nI 124
  · subst h124; decide +kernel
  · rw [if_neg h124] at h h2
    by_cases h38 : c = nI 38
    · subst h38; decide +kernel
    · rw [if_neg h38] at h h2
      by_cases h60 : c = nI 60 ∨ c = nI 61 ∨ c = nI 62
      · rcases h60 with rfl | rfl | rfl <;> decide +kernel
      · rw [if_neg h60] at h h2
        by_cases h43 : c = nI 43 ∨ c = nI 45
        · rcases h43 with rfl | rfl <;> decide +kernel
        · rw [if_neg h43] at h h2
          by_cases h42 : c = nI 42 ∨ c = nI 47 ∨ c = nI 37
          · rcases h42 with rfl | rfl | rfl <;> decide +kernel
          · rw [if_neg h42] at h h2
            by_cases h33 : c = nI 33
            · rw [if_pos h33] at h2; omega
            · rw [if_neg h33] at h; omega
theorem ex_J {e : Nat → Int32} {c : Int32} {x y : Int32 × List Int32} (h : 0 < stn c) (h2 : stn c ≤ 5) (hx : exS e x.2 x.1) (hy : exS e y.2 y.1) : exS e (rdJ c x y).2 (rdJ c x y).1 := by
  intro st
  show ex e (x.2 ++ y.2 ++ [-c]) st = _
  rw [ex_app, ex_app, hx, hy]
  show ex1 e (-c) (y.1 :: x.1 :: st) = _
  obtain ⟨a1, a2⟩ := stn_ops h h2
  unfold ex1
  rw [if_pos a1, if_neg a2]
  show jn (- -c) x.1 y.1 :: st = _
  rw [Int32.neg_neg]
  rfl
theorem rd_ex (b : Nat → Int32) (n use : Nat) (e : Nat → Int32) : ∀ f, (∀ L o a w, L ≤ 6 → (rd b n use e f L none o a w).2.2 = false → exS e (rd b n use e f L none o a w).1.2 (rd b n use e f L none o a w).1.1) ∧ (∀ L x o a w, exS e x.2 x.1 → L ≤ 5 → (rd b n use e f L (some x) o a w).2.2 = false → exS e (rd b n use e f L (some x) o a w).1.2 (rd b n use e f L (some x) o a w).1.1 ∧ w = false)
  | 0 => ⟨fun L o a w _ h => (by unfold rd at h; cases h), fun L x o a w _ _ h => (by unfold rd at h; cases h)⟩
  | f + 1 => by
    have ih := rd_ex b n use e f
    refine ⟨fun L o a w hL6 h => ?_, fun L x o a w hx hL h => ?_⟩
    · unfold rd at h ⊢
      by_cases hL : L = 6
      · rw [if_pos hL] at h ⊢
        by_cases h1 : 48 ≤ (hr b n a w).toInt ∧ (hr b n a w).toInt < 58
        · rw [if_pos h1] at h ⊢
          obtain ⟨j, a1, a2⟩ := rdD_v b n w 4 0 a
          show exS e [(rdD b n w 4 (nI 0) a).1] (rdD b n w 4 (nI 0) a).1
          rw [a1]
          exact ex_num e j (by omega)
        · rw [if_neg h1] at h ⊢
          by_cases h2 : 0 < nmx use (hr b n a w)
          · rw [if_pos h2] at h ⊢
            have := nmx_3 use (hr b n a w)
            exact ex_nam e _ (by omega)
          · rw [if_neg h2] at h ⊢
            by_cases h3 : o < 5 ∧ hr b n a w = nI 33
            · rw [if_pos h3] at h ⊢
              have hi := ih.1 6 (o + 1) (a + 1) w (by omega) h
              intro st
              show ex e ((rd b n use e f 6 none (o + 1) (a + 1) w).1.2 ++ [-(nI 33)]) st = _
              rw [ex_app, hi]
              show ex1 e (-(nI 33)) (_ :: st) = _
              unfold ex1
              rw [if_pos (by decide +kernel), if_pos (by decide +kernel)]
              rfl
            · rw [if_neg h3] at h ⊢
              by_cases h4 : o < 5 ∧ hr b n a w = nI 40
              · rw [if_pos h4] at h ⊢
                refine ih.1 1 (o + 1) (a + 1) w (by omega) ?_
                unfold rdPar at h
                exact (Bool.or_eq_false_iff.mp h).1
              · rw [if_neg h4] at h
                cases h
      · rw [if_neg hL] at h ⊢
        have hL5 : L ≤ 5 := by omega
        · have hw : (rd b n use e f (L + 1) none o a w).2.2 = false := by
            obtain ⟨f', rfl⟩ | rfl : (∃ f', f = f' + 1) ∨ f = 0 := by
              rcases f with _ | f'
              · exact Or.inr rfl
              · exact Or.inl ⟨f', rfl⟩
            · unfold rd at h
              by_cases hs : 0 < L ∧ stn (hr b n (rd b n use e (f' + 1) (L + 1) none o a w).2.1 (rd b n use e (f' + 1) (L + 1) none o a w).2.2) = L
              · exact (hr_in (b := b) (n := n) (fun q => by rw [q, stn_m1] at hs; omega)).2
              · rw [if_neg hs] at h
                exact h
            · unfold rd at h; cases h
          exact ((ih.2 L _ o _ _ (ih.1 (L + 1) o a w (by omega) hw) hL5 h).1)
    · unfold rd at h ⊢
      by_cases hs : 0 < L ∧ stn (hr b n a w) = L
      · rw [if_pos hs] at h ⊢
        have hin := hr_in (b := b) (n := n) (a := a) (w := w) (fun q => by rw [q, stn_m1] at hs; omega)
        by_cases h3 : L = 3
        · rw [if_pos h3] at h ⊢
          exact ⟨ex_J (by omega) (by omega) hx (ih.1 (L + 1) o (a + 1) w (by omega) h), hin.2⟩
        · rw [if_neg h3] at h ⊢
          have hw : (rd b n use e f (L + 1) none o (a + 1) w).2.2 = false := by
            rcases f with _ | f'
            · unfold rd at h; cases h
            · generalize hq : rd b n use e (f' + 1) (L + 1) none o (a + 1) w = y at h
              unfold rd at h
              by_cases hs2 : 0 < L ∧ stn (hr b n y.2.1 y.2.2) = L
              · exact (hr_in (b := b) (n := n) (fun q => by rw [q, stn_m1] at hs2; omega)).2
              · rw [if_neg hs2] at h
                exact h
          exact ⟨(ih.2 L _ o _ _ (ex_J (by omega) (by omega) hx (ih.1 (L + 1) o (a + 1) w (by omega) hw)) hL h).1, hin.2⟩
      · rw [if_neg hs] at h ⊢
        exact ⟨hx, h⟩

/-! the stack of what is worked out -/
def sk (g : Nat → Int32) (st : List Int32) : Prop := ∀ i v, st.reverse[i]? = some v → g i = v
theorem sk_push {g : Nat → Int32} {st : List Int32} {v : Int32} (h : sk g st) : sk (upd g st.length v) (v :: st) := by
  intro i u hi
  rw [List.reverse_cons] at hi
  by_cases c : i = st.length
  · subst c
    rw [upd_eq]
    rw [List.getElem?_append_right (by simp), List.length_reverse, Nat.sub_self] at hi
    exact Option.some.inj hi
  · rw [upd_ne c]
    have hlt := (List.getElem?_eq_some_iff.mp hi).1
    rw [List.length_append, List.length_singleton, List.length_reverse] at hlt
    rw [List.getElem?_append_left (by rw [List.length_reverse]; omega)] at hi
    exact h i u hi
theorem sk_pop {g : Nat → Int32} {st : List Int32} {v : Int32} (h : sk g (v :: st)) : sk g st ∧ g st.length = v := by
  refine ⟨fun i u hi => h i u ?_, h st.length v ?_⟩
  · rw [List.reverse_cons, List.getElem?_append_left (List.getElem?_eq_some_iff.mp hi).1]
    exact hi
  · rw [List.reverse_cons, List.getElem?_append_right (by simp), List.length_reverse, Nat.sub_self]
    rfl
theorem am_k_3 (c : Int32) (h : c < am_k (-3)) : c < 0 := by
  rw [i32_lt, am_k_int (by omega) (by omega)] at h
  rw [i32_lt, i32_0]
  omega
theorem c_worth_l (d x : Nat) (hx : x = 33 ∨ x = 37) (u v z : Int32) (code : List Int32) (hl : code.length ≤ 50) : ∀ (k i : Nat) (st : List Int32) (w : Value) (M : am_M), i + k = code.length → M x 1 = nI code.length → (∀ j y, code[j]? = some y → M (x + 1) j = y) → sk (M (x + 2)) st → st.length ≤ i → ∃ M', am_lim (am_call (d + 1)) (am_R i10_worth) (am_tx i10_worth) 6 [.ref x, .int u, .int v, .int z, .int (nI st.length), .int (nI i), w] [] M = some (some (.int (M' (x + 2) 0)), M') ∧ (∀ a, a ≠ x + 2 → M' a = M a) ∧ sk (M' (x + 2)) (ex (eV u v z) (code.drop i) st)
  | 0, i, st, w, M, hk, h1, hc, hs, hi => by
    have : i = code.length := by omega
    subst this
    rw [sg10_worth_6 _ x hx, h1]
    simp (disch := omega) only [false_or, nle9, nI_dec9, nI_add, pk_mul, pk_sub, nI_clamp, nI_in9, nI_pos9, nI_lt9, nI_le9, nI_eq9, nI_eq09, nI_le09, am_k_m1, if_true, if_false, ite_not, Classical.not_not]
    rw [if_neg (by omega), List.drop_length]
    exact ⟨M, rfl, fun _ _ => rfl, hs⟩
  | k + 1, i, st, w, M, hk, h1, hc, hs, hi => by
    have hi2 : i < code.length := by omega
    have hci := hc i code[i] (List.getElem?_eq_getElem hi2)
    have hdrop : code.drop i = code[i] :: code.drop (i + 1) := List.drop_eq_getElem_cons hi2
    rw [sg10_worth_6 _ x hx, h1]
    simp (disch := omega) only [false_or, nle9, nI_dec9, nI_add, pk_mul, pk_sub, nI_clamp, nI_in9, nI_pos9, nI_lt9, nI_le9, nI_eq9, nI_eq09, nI_le09, am_k_m1, if_true, if_false, ite_not, Classical.not_not]
    rw [if_pos hi2, hci, hdrop]
    generalize code[i] = p
    show ∃ M' : am_M, _ ∧ _ ∧ sk (M' (x + 2)) (ex (eV u v z) (code.drop (i + 1)) (ex1 (eV u v z) p st))
    have go : ∀ (st' : List Int32) (M1 : am_M), (∀ a, a ≠ x + 2 → M1 a = M a) → sk (M1 (x + 2)) st' → st'.length ≤ i + 1 → ∃ M', am_lim (am_call (d + 1)) (am_R i10_worth) (am_tx i10_worth) 168 [.ref x, .int u, .int v, .int z, .int (nI st'.length), .int (nI i), .int p] [] M1 = some (some (.int (M' (x + 2) 0)), M') ∧ (∀ a, a ≠ x + 2 → M' a = M a) ∧ sk (M' (x + 2)) (ex (eV u v z) (code.drop (i + 1)) st') := by
      intro st' M1 hM1 hs1 hl1
      obtain ⟨M', a1, a2, a3⟩ := c_worth_l d x hx u v z code hl k (i + 1) st' (.int p) M1 (by omega) (by rw [hM1 x (by omega)]; exact h1) (fun j y hj => by rw [hM1 (x + 1) (by omega)]; exact hc j y hj) hs1 hl1
      refine ⟨M', ?_, fun a ha => (a2 a ha).trans (hM1 a ha), a3⟩
      rw [sg10_worth_168 _ x hx, nI_add]
      exact a1
    have up : ∀ (j : Nat) (y : Int32) (a : Nat), a ≠ x + 2 → am_up M (x + 2) j y a = M a := fun j y a ha => au_b ha
    have upx : ∀ (j : Nat) (y : Int32), am_up M (x + 2) j y (x + 2) = upd (M (x + 2)) j y := fun j y => stc_eq
    by_cases hp : p < am_k (-3)
    · rw [if_pos hp, sg10_worth_86 _ x hx]
      by_cases h33 : p = am_k (-33)
      · rw [if_pos h33, sg10_worth_93 _ x hx]
        simp (disch := omega) only [false_or, nle9, nI_dec9, nI_add, pk_mul, pk_sub, nI_clamp, nI_in9, nI_pos9, nI_lt9, nI_le9, nI_eq9, nI_eq09, nI_le09, am_k_m1, if_true, if_false, ite_not, Classical.not_not]
        have hex : ex1 (eV u v z) p st = exN st := by unfold ex1; rw [if_pos hp, if_pos h33]
        rw [hex]
        cases st with
        | nil =>
          rw [if_pos (by show 0 < 1; omega)]
          exact go [] M (fun _ _ => rfl) hs (by show 0 ≤ i + 1; omega)
        | cons q st =>
          obtain ⟨s1, s2⟩ := sk_pop hs
          have hlen : (q :: st).length = st.length + 1 := rfl
          rw [hlen] at hi ⊢
          have hpk : nI (st.length + 1) - nI 1 = nI st.length := by rw [pk_sub (by omega), Nat.add_sub_cancel]
          rw [if_neg (by omega)]
          simp only [Nat.add_sub_cancel]
          rw [s2]
          have g := go ((if q = 0 then nI 1 else nI 0) :: st) (am_up M (x + 2) st.length (if q = 0 then nI 1 else nI 0)) (up _ _) (by rw [upx]; exact sk_push s1) (by show st.length + 1 ≤ i + 1; omega)
          by_cases hq : q = 0
          · rw [if_pos hq] at g
            rw [if_pos hq, sg10_worth_124 _ x hx]
            simp (disch := omega) only [false_or, nle9, nI_dec9, nI_add, pk_mul, pk_sub, nI_clamp, nI_in9, nI_pos9, nI_lt9, nI_le9, nI_eq9, nI_eq09, nI_le09, am_k_m1, if_true, if_false, ite_not, Classical.not_not]
            rw [show exN (q :: st) = nI 1 :: st by show (if q = 0 then nI 1 else nI 0) :: st = _; rw [if_pos hq]]
            exact g
          · rw [if_neg hq] at g
            rw [if_neg hq, sg10_worth_124 _ x hx]
            simp (disch := omega) only [false_or, nle9, nI_dec9, nI_add, pk_mul, pk_sub, nI_clamp, nI_in9, nI_pos9, nI_lt9, nI_le9, nI_eq9, nI_eq09, nI_le09, am_k_m1, if_true, if_false, ite_not, Classical.not_not]
            rw [show exN (q :: st) = nI 0 :: st by show (if q = 0 then nI 1 else nI 0) :: st = _; rw [if_neg hq]]
            exact g
      · rw [if_neg h33, sg10_worth_128 _ x hx]
        simp (disch := omega) only [false_or, nle9, nI_dec9, nI_add, pk_mul, pk_sub, nI_clamp, nI_in9, nI_pos9, nI_lt9, nI_le9, nI_eq9, nI_eq09, nI_le09, am_k_m1, if_true, if_false, ite_not, Classical.not_not]
        have hex : ex1 (eV u v z) p st = exJ p st := by unfold ex1; rw [if_pos hp, if_neg h33]
        rw [hex]
        cases st with
        | nil =>
          rw [if_pos (by show 0 < 2; omega)]
          exact go [] M (fun _ _ => rfl) hs (by show 0 ≤ i + 1; omega)
        | cons q st =>
          obtain ⟨s1, s2⟩ := sk_pop hs
          cases st with
          | nil =>
            rw [if_pos (by show 1 < 2; omega)]
            exact go [q] M (fun _ _ => rfl) hs (by show 1 ≤ i + 1; omega)
          | cons q2 st =>
            obtain ⟨s3, s4⟩ := sk_pop s1
            have hlen : (q :: q2 :: st).length = st.length + 2 := rfl
            have hlen2 : (q2 :: st).length = st.length + 1 := rfl
            rw [hlen] at hi ⊢
            rw [hlen2] at s2
            have hpk : nI (st.length + 2) + -1 = nI (st.length + 1) := by rw [nI_dec9 (by omega)]; rfl
            have hpk2 : nI (st.length + 1) - nI 1 = nI st.length := by rw [pk_sub (by omega), Nat.add_sub_cancel]
            rw [if_neg (by omega), show st.length + 2 - 1 = st.length + 1 from rfl, sg10_worth_137 _ x hx, hpk2]
            simp (disch := omega) only [false_or, nle9, nI_dec9, nI_add, pk_mul, pk_sub, nI_clamp, nI_in9, nI_pos9, nI_lt9, nI_le9, nI_eq9, nI_eq09, nI_le09, am_k_m1, if_true, if_false, ite_not, Classical.not_not, c_joined, Option.bind_some, Option.toList_some, Option.toList_none, List.cons_append, List.nil_append, bi_eq0, bi_eq1, bi_nem, if_true, if_false, ite_not, Classical.not_not]
            rw [sg10_worth_167 _ x hx]
            simp (disch := omega) only [false_or, nle9, nI_dec9, nI_add, pk_mul, pk_sub, nI_clamp, nI_in9, nI_pos9, nI_lt9, nI_le9, nI_eq9, nI_eq09, nI_le09, am_k_m1, if_true, if_false, ite_not, Classical.not_not]
            rw [s2, s4]
            exact go (jn (-p) q2 q :: st) (am_up M (x + 2) st.length (jn (-p) q2 q)) (up _ _) (by rw [upx]; exact sk_push s3) (by show st.length + 1 ≤ i + 1; omega)
    · rw [if_neg hp, sg10_worth_31 _ x hx]
      simp (disch := omega) only [false_or, nle9, nI_dec9, nI_add, pk_mul, pk_sub, nI_clamp, nI_in9, nI_pos9, nI_lt9, nI_le9, nI_eq9, nI_eq09, nI_le09, am_k_m1, if_true, if_false, ite_not, Classical.not_not]
      rw [if_pos (by omega)]
      have hex : ex1 (eV u v z) p st = (if p < 0 then (if p = -1 then u else if p = am_k (-2) then v else z) else p) :: st := by
        unfold ex1
        rw [if_neg hp, am_k_m1]
        rfl
      rw [hex]
      have fin : ∀ y, ∃ M', am_lim (am_call (d + 1)) (am_R i10_worth) (am_tx i10_worth) 79 [.ref x, .int u, .int v, .int z, .int (nI st.length), .int (nI i), .int p] [.int y, .int (nI st.length), .ref (x + 2)] M = some (some (.int (M' (x + 2) 0)), M') ∧ (∀ a, a ≠ x + 2 → M' a = M a) ∧ sk (M' (x + 2)) (ex (eV u v z) (code.drop (i + 1)) (y :: st)) := by
        intro y
        rw [sg10_worth_79 _ x hx]
        simp (disch := omega) only [false_or, nle9, nI_dec9, nI_add, pk_mul, pk_sub, nI_clamp, nI_in9, nI_pos9, nI_lt9, nI_le9, nI_eq9, nI_eq09, nI_le09, am_k_m1, if_true, if_false, ite_not, Classical.not_not]
        exact go (y :: st) (am_up M (x + 2) st.length y) (up _ _) (by rw [upx]; exact sk_push hs) (by show st.length + 1 ≤ i + 1; omega)
      by_cases hp0 : p < 0
      · rw [if_pos hp0, if_pos hp0]
        by_cases c1 : p = -1
        · rw [if_pos c1, if_pos c1]; exact fin u
        · rw [if_neg c1, if_neg c1]
          by_cases c2 : p = am_k (-2)
          · rw [if_pos c2, if_pos c2]; exact fin v
          · rw [if_neg c2, if_neg c2]; exact fin z
      · rw [if_neg hp0, if_neg hp0]; exact fin p
/-- a text in a cell x of the class (0: none) is the reference's of that use -/
def TR (f g : Nat → Int32) (S : Nat → Int32) (use : Nat) : Prop := (S (65 + use) = -1 ∧ f 1 = nI 0) ∨ ∃ n code, n ≤ 50 ∧ S (65 + use) = nI n ∧ syG (fun i => S (117 + 50 * use + i)) n use n ([], [], 0, 0, true) = .inr code ∧ f 1 = nI code.length ∧ 0 < code.length ∧ code.length ≤ 50 ∧ ∀ i v, code[i]? = some v → g i = v
theorem TR_K {f g S : Nat → Int32} {use : Nat} (h : TR f g S use) : txK S use := by
  rcases h with ⟨h, -⟩ | ⟨n, code, hn, h, -⟩
  · exact Or.inl h
  · exact Or.inr ⟨n, hn, h⟩
theorem c_worth (d x : Nat) (hx : x = 33 ∨ x = 37) (u v z : Int32) (M : am_M) (S : Nat → Int32) (use n : Nat) (code : List Int32) (hn : n ≤ 50) (hS : S (65 + use) = nI n) (hg : syG (fun i => S (117 + 50 * use + i)) n use n ([], [], 0, 0, true) = .inr code) (h1 : M x 1 = nI code.length) (hl : code.length ≤ 50) (hc : ∀ i v, code[i]? = some v → M (x + 1) i = v) : ∃ M', am_call (d + 2) i10_worth [.ref x, .int u, .int v, .int z] M = some (some (.int (txV S use u v z)), M') ∧ ∀ a, a ≠ x + 2 → M' a = M a := by
  obtain ⟨M', a1, a2, a3⟩ := c_worth_l d x hx u v z code hl code.length 0 [] .null M (by omega) h1 hc (fun i v hi => by cases hi) (Nat.le_refl _)
  refine ⟨M', ?_, a2⟩
  rw [ec10_worth _ x hx]
  refine Eq.trans a1 ?_
  have ht := sy_text (b := fun i => S (117 + 50 * use + i)) (n := n) (use := use) (x := u) (y := v) (z := z)
  rw [hg] at ht
  by_cases hw : (rdR (fun i => S (117 + 50 * use + i)) n use u v z).2.2 = true ∨ (rdR (fun i => S (117 + 50 * use + i)) n use u v z).2.1 < n
  · rw [if_pos hw] at ht; cases ht
  · rw [if_neg hw] at ht
    have hcode := Sum.inr.inj ht
    have hx2 := (rd_ex (fun i => S (117 + 50 * use + i)) n use (eV u v z) (16 * n + 20)).1 1 0 0 false (by omega) (by
      cases hq : (rdR (fun i => S (117 + 50 * use + i)) n use u v z).2.2 with
      | true => exact absurd (Or.inl hq) hw
      | false => exact hq)
    have hx3 := hx2 []
    change ex (eV u v z) (rdR (fun i => S (117 + 50 * use + i)) n use u v z).1.2 [] = [(rdR (fun i => S (117 + 50 * use + i)) n use u v z).1.1] at hx3
    rw [← hcode] at hx3
    rw [List.drop_zero, hx3] at a3
    have h0 := a3 0 _ rfl
    rw [h0]
    unfold txV
    rw [hS, nI_clamp (by omega)]
