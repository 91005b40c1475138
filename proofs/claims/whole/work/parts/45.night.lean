/-! A NIGHT, as a function of the reference's row of ints; the class's -/
def bk (S : Nat → Int32) (q : Nat) : Nat := (S (56 + q)).toNatClampNeg
def gR (S : Nat → Int32) (pg q : Nat) : Int32 := gv (S (2 + 9 * bk S q)) (S (2 + 9 * bk S q + 1)) (S (2 + 9 * bk S q + (3 + pg)))
def gvA (S : Nat → Int32) (pg q : Nat) (o : Int32) : Int32 := if S (2 + 9 * bk S q + 2) = 0 then gR S pg q else o
def oA (S : Nat → Int32) (pg q : Nat) : Int32 := S (2 + 9 * bk S q + (3 + pg))
def lA (S : Nat → Int32) (pg pn q : Nat) : Int32 := if q = 0 ∨ q = pn then oA S pg q else gvA S pg (q - 1) (oA S pg q)
def rA (S : Nat → Int32) (nb pg pn q : Nat) : Int32 := if q + 1 = pn ∨ nb ≤ q + 1 then oA S pg q else gvA S pg (q + 1) (oA S pg q)
def nvA (S : Nat → Int32) (nb pg pn q : Nat) : Int32 := if S (2 + 9 * bk S q + 2) = 0 then tk (S (2 + 9 * bk S q)) (S (2 + 9 * bk S q + 1)) (oA S pg q) (mgS S (oA S pg q) (lA S pg pn q) (rA S nb pg pn q)) (S 0) else oA S pg q
def ntF (S : Nat → Int32) (nb pg pn : Nat) : Nat → Nat → Int32
  | 0 => S
  | k + 1 => upd (ntF S nb pg pn k) (2 + 9 * bk S k + (3 + pg)) (nvA S nb pg pn k)
def ntS (S : Nat → Int32) (nb pg pn : Nat) : Nat → Int32 := upd (ntF S nb pg pn nb) 0 (S 0 + nI 1)
def chB (S : Nat → Int32) (nb pg pn : Nat) : Nat → Bool
  | 0 => false
  | k + 1 => chB S nb pg pn k || !(decide (nvA S nb pg pn k = oA S pg k))
def cb (b : Bool) : Int32 := bif b then nI 1 else nI 0
theorem cb_0 (b : Bool) : (cb b = 0) = (b = false) := by
  cases b
  · exact propext ⟨fun _ => rfl, fun _ => nI_0⟩
  · exact propext ⟨fun h => absurd h (by decide +kernel), fun h => by cases h⟩
theorem cb_01 (b : Bool) : (cb b = 0 ∨ cb b = 1) := by
  cases b
  · exact Or.inl nI_0
  · exact Or.inr rfl
theorem ntF_o {S : Nat → Int32} {nb pg pn j : Nat} : ∀ (k : Nat), (∀ q, q < k → j ≠ 2 + 9 * bk S q + (3 + pg)) → ntF S nb pg pn k j = S j
  | 0, _ => rfl
  | k + 1, h => by
    show upd _ _ _ j = _
    rw [upd_ne (h k (by omega))]
    exact ntF_o k (fun q hq => h q (by omega))
theorem bk_eq {S : Nat → Int32} {q b : Nat} (h : S (56 + q) = nI b) (hb : b < 2147483648) : bk S q = b := by
  unfold bk
  rw [h, nI_clamp (by omega)]
theorem WS_row {S : Nat → Int32} {nb ng : Nat} (h : WS S nb ng) {q : Nat} (hq : q < nb) : bk S q < nb ∧ S (56 + q) = nI (bk S q) := by
  obtain ⟨-, hn, -, -, hp⟩ := h
  obtain ⟨b, hb, e⟩ := hp.1 q hq
  rw [bk_eq e (by omega)]
  exact ⟨hb, e⟩
theorem WS_inj {S : Nat → Int32} {nb ng : Nat} (h : WS S nb ng) {q p : Nat} (hq : q < nb) (hp : p < nb) (e : bk S q = bk S p) : q = p := by
  have h1 := WS_row h hq
  have h2 := WS_row h hp
  refine h.2.2.2.2.2.2 q p hq hp ?_
  show S (56 + q) = S (56 + p)
  rw [h1.2, h2.2, e]
theorem gR_r {S : Nat → Int32} {nb ng pg q : Nat} (h : WS S nb ng) (hp : pg < 6) (hq : q < nb) : ∃ n, n ≤ 99 ∧ gR S pg q = nI n := by
  obtain ⟨⟨k, k1, k2⟩, ⟨m, m1, m2⟩, -, hv⟩ := h.2.2.2.1 (bk S q) (WS_row h hq).1
  obtain ⟨v, v1, v2⟩ := hv pg hp
  unfold gR
  rw [k2, m2, v2]
  exact gv_r k1 m1 v1
theorem oA_r {S : Nat → Int32} {nb ng pg q : Nat} (h : WS S nb ng) (hp : pg < 6) (hq : q < nb) : ∃ n, n ≤ 99 ∧ oA S pg q = nI n := by
  obtain ⟨-, -, -, hv⟩ := h.2.2.2.1 (bk S q) (WS_row h hq).1
  exact hv pg hp
theorem nvA_r {S : Nat → Int32} {nb ng pg pn q : Nat} (h : WS S nb ng) (hp : pg < 6) (hq : q < nb) : ∃ n, n ≤ 99 ∧ nvA S nb pg pn q = nI n := by
  obtain ⟨⟨k, k1, k2⟩, ⟨m, m1, m2⟩, -, -⟩ := h.2.2.2.1 (bk S q) (WS_row h hq).1
  obtain ⟨v, v1, v2⟩ := oA_r h hp hq
  unfold nvA
  by_cases c : S (2 + 9 * bk S q + 2) = 0
  · rw [if_pos c]
    obtain ⟨w, w1, w2⟩ := mgS_r S (oA S pg q) (lA S pg pn q) (rA S nb pg pn q)
    rw [k2, m2, w2, v2]
    exact tk_r k1 m1 v1 w1
  · rw [if_neg c]
    exact ⟨v, v1, v2⟩
/-- a night keeps the row's shape -/
theorem ntS_WS {S : Nat → Int32} {nb ng pg pn : Nat} (h : WS S nb ng) (hp : pg < 6) : WS (ntS S nb pg pn) nb (ng + 1) := by
  have hrow : ∀ q, q < nb → bk S q < nb := fun q hq => (WS_row h hq).1
  have hn := h.2.1
  have oth : ∀ j, j ≠ 0 → (∀ q, q < nb → j ≠ 2 + 9 * bk S q + (3 + pg)) → ntS S nb pg pn j = S j := fun j h0 hj => by
    show upd _ _ _ j = _
    rw [upd_ne h0]
    exact ntF_o nb hj
  have pgs : ∀ b p, b < nb → p < 6 → ∃ v, v ≤ 99 ∧ ntS S nb pg pn (2 + 9 * b + (3 + p)) = nI v := by
    intro b p hb hp6
    have : ∀ k, k ≤ nb → ∃ v, v ≤ 99 ∧ ntF S nb pg pn k (2 + 9 * b + (3 + p)) = nI v := by
      intro k
      induction k with
      | zero =>
        intro _
        obtain ⟨-, -, -, hv⟩ := h.2.2.2.1 b hb
        exact hv p hp6
      | succ k ih =>
        intro hk
        show ∃ v, v ≤ 99 ∧ upd _ _ _ _ = nI v
        by_cases c : 2 + 9 * b + (3 + p) = 2 + 9 * bk S k + (3 + pg)
        · rw [c, upd_eq]
          exact nvA_r h hp (by omega)
        · rw [upd_ne c]
          exact ih (by omega)
    obtain ⟨v, a, e⟩ := this nb (Nat.le_refl _)
    refine ⟨v, a, ?_⟩
    show upd _ _ _ _ = _
    rw [upd_ne (by omega)]
    exact e
  refine ⟨?_, h.2.1, ?_, ?_, ?_⟩
  · rw [oth 1 (by omega) (fun q hq => by omega)]
    exact h.1
  · show upd _ _ _ 0 = _
    rw [upd_eq, h.2.2.1, nI_add]
  · intro b hb
    obtain ⟨a1, a2, a3, -⟩ := h.2.2.2.1 b hb
    refine ⟨?_, ?_, ?_, fun p hp6 => pgs b p hb hp6⟩
    · rw [oth _ (by omega) (fun q hq => by omega)]; exact a1
    · rw [oth _ (by omega) (fun q hq => by omega)]; exact a2
    · rw [oth _ (by omega) (fun q hq => by omega)]; exact a3
  · have e : ∀ i, i < nb → ntS S nb pg pn (56 + i) = S (56 + i) := fun i hi => oth _ (by omega) (fun q hq => by have := hrow q hq; omega)
    obtain ⟨p1, p2, p3⟩ := h.2.2.2.2
    refine ⟨fun i hi => ?_, fun b hb => ?_, fun i j hi hj hij => p3 i j hi hj ?_⟩
    · show ∃ b, b < nb ∧ ntS S nb pg pn (56 + i) = nI b
      rw [e i hi]; exact p1 i hi
    · obtain ⟨i, hi, hib⟩ := p2 b hb
      exact ⟨i, hi, by show ntS S nb pg pn (56 + i) = nI b; rw [e i hi]; exact hib⟩
    · change ntS S nb pg pn (56 + i) = ntS S nb pg pn (56 + j) at hij
      rw [e i hi, e j hj] at hij
      exact hij
/-- a night changes nothing from 56 on, nor what it does not name -/
theorem ntS_hi {S : Nat → Int32} {nb ng pg pn : Nat} (h : WS S nb ng) (hp : pg < 6) {j : Nat} (hj : 56 ≤ j) : ntS S nb pg pn j = S j := by
  show upd _ _ _ j = _
  rw [upd_ne (by omega)]
  exact ntF_o nb (fun q hq => by have := (WS_row h hq).1; have := h.2.1; omega)
theorem c_givenAt (d t : Nat) (ht : t = 9 ∨ t = 23) (q b nb : Nat) (o : Int32) (M : am_M) (h7 : M t 7 = nI nb) (hn : nb ≤ 6) (hq : q < nb) (h5 : M (t + 5) q = nI b) (hb : b < 6) : am_call (d + 1) i8_givenAt [.ref t, .int (nI q), .int o] M = some (some (.int (if M (t + 3) b = 0 then M (t + 6) q else o)), M) := by
  rw [ec8_givenAt _ t ht, h7]
  simp (disch := omega) only [false_or, nle9, nI_dec9, nI_add, pk_mul, pk_sub, nI_clamp, nI_in9, nI_pos9, nI_lt9, nI_le9, nI_eq9, nI_eq09, nI_le09, am_k_m1, if_true, if_false, ite_not, Classical.not_not, h5]
  rw [if_pos hq]
  split <;> rfl
theorem c_givenAt_hi (d t : Nat) (ht : t = 9 ∨ t = 23) (q nb : Nat) (o : Int32) (M : am_M) (h7 : M t 7 = nI nb) (hn : nb ≤ 6) (hq : nb ≤ q) (hq2 : q ≤ 6) : am_call (d + 1) i8_givenAt [.ref t, .int (nI q), .int o] M = some (some (.int o), M) := by
  rw [ec8_givenAt _ t ht, h7]
  simp (disch := omega) only [false_or, nle9, nI_dec9, nI_add, pk_mul, pk_sub, nI_clamp, nI_in9, nI_pos9, nI_lt9, nI_le9, nI_eq9, nI_eq09, nI_le09, am_k_m1, if_true, if_false, ite_not, Classical.not_not]
  rw [if_neg (by omega)]
theorem c_givenAt_lo (d t : Nat) (ht : t = 9 ∨ t = 23) (o : Int32) (M : am_M) : am_call (d + 1) i8_givenAt [.ref t, .int (nI 0 - nI 1), .int o] M = some (some (.int o), M) := by
  rw [ec8_givenAt _ t ht, if_pos (by decide +kernel)]
theorem c_night_a (d t nb ng pg : Nat) (x2 : Int32) (ht : t = 9 ∨ t = 23) (S : Nat → Int32) (hW : WS S nb ng) (hp : pg < 6) : ∀ (k i : Nat) (M : am_M), i + k = nb → RS M t S nb → (∀ q, q < i → M (t + 6) q = gR S pg q) → ∃ M', am_lim (am_call (d + 3)) (am_R i8_passNight) (am_tx i8_passNight) 11 [.ref t, .ref 30, .int x2, .int (nI pg), .int (nI i), .null, .null, .null, .null, .null, .null, .null] [] M = am_lim (am_call (d + 3)) (am_R i8_passNight) (am_tx i8_passNight) 62 [.ref t, .ref 30, .int x2, .int (nI pg), .int (nI 0), .int (nI 0), .null, .null, .null, .null, .null, .null] [] M' ∧ Ch [t + 6] M M' ∧ ∀ q, q < nb → M' (t + 6) q = gR S pg q
  | 0, i, M, h, hR, hg => by
    have : i = nb := by omega
    subst this
    have hn := hW.2.1
    rw [sg8_passNight_k2_11 _ t ht, hR.1, hW.1]
    simp (disch := omega) only [false_or, nle9, nI_dec9, nI_add, pk_mul, pk_sub, nI_clamp, nI_in9, nI_pos9, nI_lt9, nI_le9, nI_eq9, nI_eq09, nI_le09, am_k_m1, if_true, if_false, ite_not, Classical.not_not]
    rw [if_neg (by omega)]
    exact ⟨M, rfl, Ch_rf, hg⟩
  | k + 1, i, M, h, hR, hg => by
    have hn := hW.2.1
    have hi : i < nb := by omega
    obtain ⟨hb, e⟩ := WS_row hW hi
    obtain ⟨⟨k', k1, k2⟩, ⟨m, m1, m2⟩, -, hv⟩ := hW.2.2.2.1 _ hb
    obtain ⟨v, v1, v2⟩ := hv pg hp
    have hR0 := hR
    obtain ⟨r1, r2, r3, r4, -⟩ := hR
    obtain ⟨q1, q2, q3, q4⟩ := r3 _ hb
    rw [sg8_passNight_k2_11 _ t ht, r1, hW.1]
    simp (disch := omega) only [false_or, nle9, nI_dec9, nI_add, pk_mul, pk_sub, nI_clamp, nI_in9, nI_pos9, nI_lt9, nI_le9, nI_eq9, nI_eq09, nI_le09, am_k_m1, if_true, if_false, ite_not, Classical.not_not]
    rw [if_pos hi, r4 i hi, e, c_said _ t ht _ pg M (by omega)]
    simp only [Option.bind_some, Option.toList_some, Option.toList_none, List.cons_append, List.nil_append, bi_eq0, bi_eq1, bi_nem, if_true, if_false, ite_not, Classical.not_not, sg8_passNight_k2_46 _ t ht]
    rw [q4 pg hp, v2, c_given d t ht _ k' m v M (by omega) k1 m1 v1 (q1.trans k2) (q2.trans m2)]
    simp only [Option.bind_some, Option.toList_some, Option.toList_none, List.cons_append, List.nil_append, bi_eq0, bi_eq1, bi_nem, if_true, if_false, ite_not, Classical.not_not, sg8_passNight_k2_49 _ t ht]
    simp (disch := omega) only [false_or, nle9, nI_dec9, nI_add, pk_mul, pk_sub, nI_clamp, nI_in9, nI_pos9, nI_lt9, nI_le9, nI_eq9, nI_eq09, nI_le09, am_k_m1, if_true, if_false, ite_not, Classical.not_not]
    have hgi : gv (nI k') (nI m) (nI v) = gR S pg i := by unfold gR; rw [k2, m2, v2]
    rw [hgi]
    obtain ⟨M2, b1, b2, b3⟩ := c_night_a d t nb ng pg x2 ht S hW hp k (i + 1) (am_up M (t + 6) i (gR S pg i)) (by omega) (RS_ch hR0 (by refine ⟨?_, ?_, ?_, ?_, ?_, ?_⟩ <;> exact au_b (by omega))) (fun q hq => by
      by_cases c : q = i
      · subst c; exact au_s
      · rw [au_j c]; exact hg q (by omega))
    exact ⟨M2, b1, Ch_tr (Ch_up (by simp)) b2, b3⟩
def NI2 (M : am_M) (t : Nat) (S : Nat → Int32) (nb pg pn i : Nat) : Prop := M t 7 = S 1 ∧ M t 8 = S 0 ∧ (∀ b, b < nb → M (t + 1) b = S (2 + 9 * b) ∧ M (t + 2) b = S (2 + 9 * b + 1) ∧ M (t + 3) b = S (2 + 9 * b + 2) ∧ ∀ p, p < 6 → M (t + 4) (b * 6 + p) = ntF S nb pg pn i (2 + 9 * b + (3 + p))) ∧ (∀ q, q < nb → M (t + 5) q = S (56 + q)) ∧ (∀ q, q < nb → M (t + 6) q = gR S pg q) ∧ TR (M 33) (M 34) S 0 ∧ RZ M t nb
theorem NI2_ch {M M' : am_M} {t : Nat} (ht : t = 9 ∨ t = 23) {S : Nat → Int32} {nb pg pn i : Nat} (h : NI2 M t S nb pg pn i) (hc : ∀ a, a ≠ 35 → M' a = M a) : NI2 M' t S nb pg pn i := by
  unfold NI2 RZ
  rw [hc t (by omega), hc (t + 1) (by omega), hc (t + 2) (by omega), hc (t + 3) (by omega), hc (t + 4) (by omega), hc (t + 5) (by omega), hc (t + 6) (by omega), hc 33 (by omega), hc 34 (by omega)]
  exact h
theorem NI2_end {M : am_M} {t : Nat} (ht : t = 9 ∨ t = 23) {S : Nat → Int32} {nb ng pg pn : Nat} (hW : WS S nb ng) (hp : pg < 6) (h : NI2 M t S nb pg pn nb) : RS (am_up M t 8 (M t 8 + nI 1)) t (ntS S nb pg pn) nb := by
  obtain ⟨r1, r2, r3, r4, r5, r6, r7⟩ := h
  have hn := hW.2.1
  have oth : ∀ j, j ≠ 0 → (∀ q, q < nb → j ≠ 2 + 9 * bk S q + (3 + pg)) → ntS S nb pg pn j = S j := fun j h0 hj => by
    show upd _ _ _ j = _
    rw [upd_ne h0]
    exact ntF_o nb hj
  have hrow : ∀ q, q < nb → bk S q < nb := fun q hq => (WS_row hW hq).1
  refine ⟨?_, ?_, fun b hb => ⟨?_, ?_, ?_, fun p hp6 => ?_⟩, fun i hi => ?_, RZ_c r7 (au_b (by omega)) (au_b (by omega))⟩
  · rw [au_j (by decide), r1, oth 1 (by omega) (fun q hq => by omega)]
  · rw [au_s, r2]
    show _ = upd _ _ _ 0
    rw [upd_eq]
  · rw [au_b (by omega), (r3 b hb).1, oth _ (by omega) (fun q hq => by omega)]
  · rw [au_b (by omega), (r3 b hb).2.1, oth _ (by omega) (fun q hq => by omega)]
  · rw [au_b (by omega), (r3 b hb).2.2.1, oth _ (by omega) (fun q hq => by omega)]
  · rw [au_b (by omega), (r3 b hb).2.2.2 p hp6]
    show _ = upd _ _ _ _
    rw [upd_ne (by omega)]
  · rw [au_b (by omega), r4 i hi, oth _ (by omega) (fun q hq => by have := hrow q hq; omega)]
