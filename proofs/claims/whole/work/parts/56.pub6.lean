/-! the public calls: round, place, check, readers -/
theorem goS_add {S : Nat → Int32} {nb ng pn a : Nat} : ∀ n, goS (goS S nb ng pn a) nb (ng + a) pn n = goS S nb ng pn (a + n)
  | 0 => rfl
  | n + 1 => by
    show ntS (goS (goS S nb ng pn a) nb (ng + a) pn n) nb ((ng + a + n) % 6) pn = ntS (goS S nb ng pn (a + n)) nb ((ng + (a + n)) % 6) pn
    rw [goS_add n, Nat.add_assoc]
def eqB (F G : Nat → Int32) : Nat → Nat → Bool
  | _, 0 => true
  | i, k + 1 => decide (F i = G i) && eqB F G (i + 1) k
theorem eqB_iff (F G : Nat → Int32) : ∀ k i, eqB F G i k = true ↔ ∀ j, i ≤ j → j < i + k → F j = G j
  | 0, i => ⟨fun _ j h1 h2 => absurd h2 (by omega), fun _ => rfl⟩
  | k + 1, i => by
    show (decide (F i = G i) && eqB F G (i + 1) k) = true ↔ _
    rw [Bool.and_eq_true, eqB_iff F G k (i + 1), decide_eq_true_iff]
    constructor
    · rintro ⟨h1, h2⟩ j hj1 hj2
      by_cases e : j = i
      · subst e; exact h1
      · exact h2 j (by omega) (by omega)
    · exact fun h => ⟨h i (by omega) (by omega), fun j h1 h2 => h j (by omega) (by omega)⟩
theorem c_says_l (C : am_H) (nb : Nat) (hn : nb ≤ 6) (M : am_M) (h7 : M 23 7 = nI nb) : ∀ (k i : Nat), i + k = nb * 6 → am_lim C (am_R i8_saysAs) (am_tx i8_saysAs) 2 [.ref 23, .ref 9, .int (nI i)] [] M = some (some (.int (cb (eqB (M 27) (M 13) i k))), M)
  | 0, i, h => by
    have : i = nb * 6 := by omega
    subst this
    rw [sg8_saysAs_2, h7]
    simp (disch := omega) only [false_or, nle9, nI_dec9, nI_add, pk_mul, pk_sub, nI_clamp, nI_in9, nI_pos9, nI_lt9, nI_le9, nI_eq9, nI_eq09, nI_le09, am_k_m1, if_true, if_false, ite_not, Classical.not_not]
    rw [if_neg (by omega)]
    rfl
  | k + 1, i, h => by
    rw [sg8_saysAs_2, h7]
    simp (disch := omega) only [false_or, nle9, nI_dec9, nI_add, pk_mul, pk_sub, nI_clamp, nI_in9, nI_pos9, nI_lt9, nI_le9, nI_eq9, nI_eq09, nI_le09, am_k_m1, if_true, if_false, ite_not, Classical.not_not]
    rw [if_pos (by omega)]
    have e : eqB (M 27) (M 13) i (k + 1) = (decide (M 27 i = M 13 i) && eqB (M 27) (M 13) (i + 1) k) := rfl
    rw [e]
    by_cases c : M 27 i = M 13 i
    · rw [if_pos c, decide_eq_true c, Bool.true_and]
      exact c_says_l C nb hn M h7 k (i + 1) (by omega)
    · rw [if_neg c, decide_eq_false c, Bool.false_and]
      rfl
def inB (T A : Nat → Int32) (b : Nat) (acc : Bool) : Nat → Bool
  | 0 => acc
  | p + 1 => inB T A b acc p && decide (T (2 + 9 * b + (3 + p)) = A (2 + 9 * b + (3 + p)))
def ouB (T A : Nat → Int32) : Nat → Bool
  | 0 => true
  | b + 1 => inB T A b (ouB T A b) 6
theorem inB_iff (T A : Nat → Int32) (b : Nat) (acc : Bool) : ∀ p, inB T A b acc p = true ↔ acc = true ∧ ∀ q, q < p → T (2 + 9 * b + (3 + q)) = A (2 + 9 * b + (3 + q))
  | 0 => ⟨fun h => ⟨h, fun q hq => absurd hq (by omega)⟩, fun h => h.1⟩
  | p + 1 => by
    show (inB T A b acc p && decide (T (2 + 9 * b + (3 + p)) = A (2 + 9 * b + (3 + p)))) = true ↔ _
    rw [Bool.and_eq_true, inB_iff T A b acc p, decide_eq_true_iff]
    constructor
    · rintro ⟨⟨h1, h2⟩, h3⟩
      refine ⟨h1, fun q hq => ?_⟩
      by_cases e : q = p
      · subst e; exact h3
      · exact h2 q (by omega)
    · exact fun h => ⟨⟨h.1, fun q hq => h.2 q (by omega)⟩, h.2 p (by omega)⟩
theorem ouB_iff (T A : Nat → Int32) : ∀ b, ouB T A b = true ↔ ∀ x q, x < b → q < 6 → T (2 + 9 * x + (3 + q)) = A (2 + 9 * x + (3 + q))
  | 0 => ⟨fun _ x q h => absurd h (by omega), fun _ => rfl⟩
  | b + 1 => by
    show inB T A b (ouB T A b) 6 = true ↔ _
    rw [inB_iff, ouB_iff T A b]
    constructor
    · rintro ⟨h1, h2⟩ x q hx hq
      by_cases e : x = b
      · subst e; exact h2 q hq
      · exact h1 x q (by omega) hq
    · exact fun h => ⟨fun x q hx hq => h x q (by omega) hq, fun q hq => h b q (by omega) hq⟩
theorem eqB_ouB {M : am_M} {T S : Nat → Int32} {nb : Nat} (h1 : RS M 23 T nb) (h2 : RS M 9 S nb) : eqB (M 27) (M 13) 0 (nb * 6) = ouB T S nb := by
  rw [Bool.eq_iff_iff, eqB_iff, ouB_iff]
  constructor
  · intro h x q hx hq
    have := h (x * 6 + q) (by omega) (by omega)
    rw [← (h1.2.2.1 x hx).2.2.2 q hq, ← (h2.2.2.1 x hx).2.2.2 q hq]
    exact this
  · intro h j _ hj
    have hx : j / 6 < nb := by omega
    have hq : j % 6 < 6 := Nat.mod_lt _ (by omega)
    have hjj : j = j / 6 * 6 + j % 6 := by omega
    have := h (j / 6) (j % 6) hx hq
    rw [← (h1.2.2.1 _ hx).2.2.2 _ hq, ← (h2.2.2.1 _ hx).2.2.2 _ hq, ← hjj] at this
    exact this
theorem m_now_i (d b nb : Nat) (hb : b < nb) (hn : nb ≤ 6) (S : Nat → Int32) (M : am_M) (hA : AS M S) (acc : Bool) : ∀ (k p : Nat), p + k = 6 → am_lim (am_call (d + 2)) (am_R i12_isAsNow) (am_tx i12_isAsNow) 16 [.ref 68, .int (cb (inB (M 69) S b acc p)), .int (nI b), .int (nI p)] [] M = am_lim (am_call (d + 2)) (am_R i12_isAsNow) (am_tx i12_isAsNow) 4 [.ref 68, .int (cb (inB (M 69) S b acc 6)), .int (nI (b + 1)), .int (nI 6)] [] M
  | 0, p, h => by
    have : p = 6 := by omega
    subst this
    rw [sg12_isAsNow_16, if_neg (by decide +kernel), nI_add]
  | k + 1, p, h => by
    rw [← m_now_i d b nb hb hn S M hA acc k (p + 1) (by omega), sg12_isAsNow_16]
    simp (disch := omega) only [false_or, nle9, nI_dec9, nI_add, pk_mul, pk_sub, nI_clamp, nI_in9, nI_pos9, nI_lt9, nI_le9, nI_eq9, nI_eq09, nI_le09, am_k_m1, if_true, if_false, ite_not, Classical.not_not]
    rw [if_pos (by omega)]
    have e : inB (M 69) S b acc (p + 1) = (inB (M 69) S b acc p && decide (M 69 (2 + 9 * b + (3 + p)) = S (2 + 9 * b + (3 + p)))) := rfl
    rw [e]
    cases hc : inB (M 69) S b acc p with
    | false =>
      rw [if_pos (by decide +kernel), Bool.false_and]
      rfl
    | true =>
      rw [if_neg (by decide +kernel), m_pageAt _ b p M (by omega)]
      simp only [Option.bind_some, Option.toList_some, Option.toList_none, List.cons_append, List.nil_append, bi_eq0, bi_eq1, bi_nem, if_true, if_false, ite_not, Classical.not_not, sg12_isAsNow_32]
      rw [nI_add, m_spot]
      simp only [Option.bind_some, Option.toList_some, Option.toList_none, List.cons_append, List.nil_append, bi_eq0, bi_eq1, bi_nem, if_true, if_false, ite_not, Classical.not_not, sg12_isAsNow_43]
      simp (disch := omega) only [false_or, nle9, nI_dec9, nI_add, pk_mul, pk_sub, nI_clamp, nI_in9, nI_pos9, nI_lt9, nI_le9, nI_eq9, nI_eq09, nI_le09, am_k_m1, if_true, if_false, ite_not, Classical.not_not]
      rw [hA _ (by omega)]
      by_cases c : M 69 (2 + 9 * b + (3 + p)) = S (2 + 9 * b + (3 + p))
      · rw [if_pos c, decide_eq_true c]
        rfl
      · rw [if_neg c, decide_eq_false c]
        rfl
theorem m_now_l (d nb : Nat) (hn : nb ≤ 6) (S : Nat → Int32) (M : am_M) (hA : AS M S) (h1 : M 69 1 = nI nb) : ∀ (k b : Nat) (w : Value), b + k = nb → am_lim (am_call (d + 2)) (am_R i12_isAsNow) (am_tx i12_isAsNow) 4 [.ref 68, .int (cb (ouB (M 69) S b)), .int (nI b), w] [] M = some (some (.int (cb (ouB (M 69) S nb))), M)
  | 0, b, w, h => by
    have : b = nb := by omega
    subst this
    rw [sg12_isAsNow_4, h1]
    simp (disch := omega) only [false_or, nle9, nI_dec9, nI_add, pk_mul, pk_sub, nI_clamp, nI_in9, nI_pos9, nI_lt9, nI_le9, nI_eq9, nI_eq09, nI_le09, am_k_m1, if_true, if_false, ite_not, Classical.not_not]
    rw [if_neg (by omega), if_pos (cb_01 _)]
  | k + 1, b, w, h => by
    rw [sg12_isAsNow_4, h1]
    simp (disch := omega) only [false_or, nle9, nI_dec9, nI_add, pk_mul, pk_sub, nI_clamp, nI_in9, nI_pos9, nI_lt9, nI_le9, nI_eq9, nI_eq09, nI_le09, am_k_m1, if_true, if_false, ite_not, Classical.not_not]
    rw [if_pos (by omega)]
    have hi := m_now_i d b nb (by omega) hn S M hA (ouB (M 69) S b) 6 0 rfl
    refine Eq.trans hi ?_
    exact m_now_l d nb hn S M hA h1 k (b + 1) _ (by omega)
theorem m_isAsNow (d nb : Nat) (hn : nb ≤ 6) (S : Nat → Int32) (M : am_M) (hA : AS M S) (h1 : M 69 1 = nI nb) : am_call (d + 3) i12_isAsNow [.ref 68] M = some (some (.int (cb (ouB (M 69) S nb))), M) := by
  rw [ec12_isAsNow]
  exact m_now_l d nb hn S M hA h1 nb 0 .null (by omega)
abbrev rnP (S : Nat → Int32) (nb ng : Nat) : Nat → Bool := fun j => ouB (goS S nb ng 0 (6 * (j + 1))) S nb
abbrev rnM (o : Option Nat) : Option Nat := o.map (fun j => 6 * (j + 1))
theorem c_round_l (d nb ng : Nat) (hg : ng ≤ 9999) (S : Nat → Int32) (hW : WS S nb ng) : ∀ (k i : Nat) (M : am_M), i + k = 20 → RS M 23 (goS S nb ng 0 (6 * i)) nb → RS M 9 S nb → TR (M 33) (M 34) S 0 → ∃ M', am_lim (am_call (d + 5)) (am_R i11_round) (am_tx i11_round) 14 [.ref 0, .int (nI (6 * (i + 1)))] [] M = oC (rnM (fst1 (rnP S nb ng) i k)) 2 M' ∧ Ch [23, 27, 29, 35] M M'
  | 0, i, M, h, hR, hR9, hT => by
    have : i = 20 := by omega
    subst this
    rw [sg11_round_14, if_neg (by decide +kernel), ce _ 2 _ (by omega)]
    simp only [Option.bind_some, Option.toList_some, Option.toList_none, List.cons_append, List.nil_append, bi_eq0, bi_eq1, bi_nem, if_true, if_false, ite_not, Classical.not_not, sg11_round_54]
    exact ⟨M, rfl, Ch_rf⟩
  | k + 1, i, M, h, hR, hR9, hT => by
    have hn := hW.2.1
    rw [sg11_round_14]
    simp (disch := omega) only [false_or, nle9, nI_dec9, nI_add, pk_mul, pk_sub, nI_clamp, nI_in9, nI_pos9, nI_lt9, nI_le9, nI_eq9, nI_eq09, nI_le09, am_k_m1, if_true, if_false, ite_not, Classical.not_not]
    rw [if_pos (by omega)]
    obtain ⟨M1, a1, a2, a3⟩ := c_think d nb (ng + 6 * i) 0 6 (by omega) (by omega) (goS S nb ng 0 (6 * i)) (goS_WS hW (6 * i)) M hR (TR_S (by omega) hT (fun j hj => goS_hi hW (by omega) (6 * i)))
    rw [goS_add] at a2
    rw [a1]
    simp only [Option.bind_some, Option.toList_some, Option.toList_none, List.cons_append, List.nil_append, bi_eq0, bi_eq1, bi_nem, if_true, if_false, ite_not, Classical.not_not, sg11_round_27]
    have hR1 : RS M1 9 S nb := RS_ch hR9 (by refine ⟨?_, ?_, ?_, ?_, ?_, ?_⟩ <;> exact a3 _ (by decide))
    have h7 : M1 23 7 = nI nb := a2.1.trans (goS_WS hW (6 * i + 6)).1
    rw [ec8_saysAs, c_says_l _ nb hn M1 h7 (nb * 6) 0 (by omega), eqB_ouB a2 hR1]
    simp only [Option.bind_some, Option.toList_some, Option.toList_none, List.cons_append, List.nil_append, bi_eq0, bi_eq1, bi_nem, if_true, if_false, ite_not, Classical.not_not, sg11_round_38]
    have hP : rnP S nb ng i = ouB (goS S nb ng 0 (6 * i + 6)) S nb := rfl
    cases hc : ouB (goS S nb ng 0 (6 * i + 6)) S nb with
    | true =>
      rw [if_neg (by decide +kernel), fst1_t (hP.trans hc)]
      exact ⟨M1, rfl, a3⟩
    | false =>
      rw [if_pos (by decide +kernel), fst1_f (by rw [hP, hc]; decide), nI_add]
      obtain ⟨M2, b1, b2⟩ := c_round_l d nb ng hg S hW k (i + 1) M1 (by omega) a2 hR1 (by rw [a3 33 (by decide), a3 34 (by decide)]; exact hT)
      exact ⟨M2, b1, Ch_tr a3 b2⟩
theorem m_round_l (d nb ng : Nat) (hg : ng ≤ 9999) (S : Nat → Int32) (hW : WS S nb ng) (hK : txK S 0) : ∀ (k i : Nat) (M : am_M), i + k = 20 → M 69 = goS S nb ng 0 (6 * i) → AS M S → ∃ M', am_lim (am_call (d + 43)) (am_R i12_round) (am_tx i12_round) 8 [.ref 68, .int (nI (6 * i)), .int (cb false), .null] [] M = oM (rnM (fst1 (rnP S nb ng) i k)) 2 M' ∧ M' 69 = S ∧ J6 [69, 73] M M'
  | 0, i, M, h, hM, hA => by
    have : i = 20 := by omega
    subst this
    have hhi : ∀ j, 62 ≤ j → M 69 j = S j := fun j hj => by rw [hM]; exact goS_hi hW (by omega) _
    rw [sg12_round_8, if_neg (by decide +kernel), if_pos (by decide +kernel)]
    obtain ⟨M1, a1, a2, a3⟩ := m_back (d + 42) (am_k (-1)) S M hA hhi
    rw [a1]
    simp only [Option.bind_some, Option.toList_some, Option.toList_none, List.cons_append, List.nil_append, bi_eq0, bi_eq1, bi_nem, if_true, if_false, ite_not, Classical.not_not, sg12_round_49]
    rw [if_pos (by decide +kernel), me2]
    simp only [Option.bind_some, Option.toList_some, Option.toList_none, List.cons_append, List.nil_append, bi_eq0, bi_eq1, bi_nem, if_true, if_false, ite_not, Classical.not_not, sg12_round_60]
    exact ⟨M1, rfl, a2, J6_mo a3 (by decide)⟩
  | k + 1, i, M, h, hM, hA => by
    have hn := hW.2.1
    have hWi := goS_WS (pn := 0) hW (6 * i)
    rw [sg12_round_8]
    simp (disch := omega) only [nI_lt9]
    rw [if_pos (by omega), if_pos (by decide +kernel), pn0]
    obtain ⟨M1, a1, a2, a3⟩ := m_go d nb (ng + 6 * i) 0 6 (by omega) (by omega) M (hM ▸ hWi) (by rw [hM]; exact txK_S hK (fun j hj => goS_hi hW (by omega) _))
    rw [hM, goS_add] at a2
    rw [a1]
    simp only [Option.bind_some, Option.toList_some, Option.toList_none, List.cons_append, List.nil_append, bi_eq0, bi_eq1, bi_nem, if_true, if_false, ite_not, Classical.not_not, sg12_round_25]
    have hA1 := AS_J hA a3 (by decide)
    rw [show d + 43 = (d + 40) + 3 from rfl, m_isAsNow (d + 40) nb hn S M1 hA1 (by rw [a2]; exact (goS_WS hW _).1), a2]
    simp only [Option.bind_some, Option.toList_some, Option.toList_none, List.cons_append, List.nil_append, bi_eq0, bi_eq1, bi_nem, if_true, if_false, ite_not, Classical.not_not, sg12_round_32]
    have hP : rnP S nb ng i = ouB (goS S nb ng 0 (6 * i + 6)) S nb := rfl
    have hhi : ∀ j, 62 ≤ j → M1 69 j = S j := fun j hj => by rw [a2]; exact goS_hi hW (by omega) _
    rw [nI_add]
    cases hc : ouB (goS S nb ng 0 (6 * i + 6)) S nb with
    | true =>
      rw [fst1_t (hP.trans hc), sg12_round_8, if_neg (show ¬ (cb true = 0) by decide +kernel), if_neg (show ¬ (cb true = 0) by decide +kernel), ite_self]
      obtain ⟨M2, b1, b2, b3⟩ := m_back (d + 42) (nI (6 * i + 6)) S M1 hA1 hhi
      rw [b1]
      simp only [Option.bind_some, Option.toList_some, Option.toList_none, List.cons_append, List.nil_append, bi_eq0, bi_eq1, bi_nem, if_true, if_false, ite_not, Classical.not_not, sg12_round_49]
      rw [if_neg (nI_pos (by omega))]
      exact ⟨M2, rfl, b2, J6_tr a3 (J6_mo b3 (by decide))⟩
    | false =>
      rw [fst1_f (by rw [hP, hc]; decide)]
      obtain ⟨M2, b1, b2, b3⟩ := m_round_l d nb ng hg S hW hK k (i + 1) M1 (by omega) a2 hA1
      exact ⟨M2, b1, b2, J6_tr a3 b3⟩
theorem po_round (d : Nat) (M : am_M) (hI : IV M M) : PO d i11_round i12_round [] M := by
  obtain ⟨nb, ng, hW, hg, hR, hD⟩ := hI.1
  have hn := hW.2.1
  have h7 : M 9 7 = nI nb := hR.1.trans hW.1
  have h8 : M 9 8 = nI ng := hR.2.1.trans hW.2.2.1
  have cB : ∀ (d' : Nat) (x : Int32) (N : am_M), N 9 7 = M 9 7 → am_call (d' + 2) i11_isBook [.ref 0, .int x] N = some (some (.int (bi (0 ≤ x.toInt ∧ x.toInt < nb))), N) := fun d' x N h => c_isBook d' x N nb (h.trans h7) hn
  have cP : ∀ (d' : Nat) (x : Int32) (N : am_M), N 9 7 = M 9 7 → am_call (d' + 2) i11_isPlace [.ref 0, .int x] N = some (some (.int (bi (0 ≤ x.toInt ∧ x.toInt < nb))), N) := fun d' x N h => c_isPlace d' x N nb (h.trans h7) hn
  have cPB : ∀ (d' : Nat) (x y : Int32) (N : am_M), N 9 7 = M 9 7 → am_call (d' + 3) i11_isPageOfBook [.ref 0, .int x, .int y] N = some (some (.int (bi ((0 ≤ x.toInt ∧ x.toInt < nb) ∧ 0 ≤ y.toInt ∧ y.toInt < 6))), N) := fun d' x y N h => c_isPageOfBook d' x y N nb (h.trans h7) hn
  have mB : ∀ (d' : Nat) (x : Int32) (N : am_M), N 69 = M 69 → am_call (d' + 2) i12_isBook [.ref 68, .int x] N = some (some (.int (bi (0 ≤ x.toInt ∧ x.toInt < nb))), N) := fun d' x N h => m_isBook d' x N nb (by rw [h]; exact hW.1) hn
  obtain ⟨M1, a1, a2, a3⟩ := c_copyFrom (d + 58) 23 9 nb ng (by omega) (M 69) hW M hR
  have tr1 : TR (M1 33) (M1 34) (M 69) 0 := by rw [a3 33 (by decide), a3 34 (by decide)]; exact hD.2.2.2.2.2.2.2.1
  obtain ⟨M2, b1, b2⟩ := c_round_l (d + 54) nb ng hg (M 69) hW 20 0 M1 rfl a2 (RS_ch hR (by refine ⟨?_, ?_, ?_, ?_, ?_, ?_⟩ <;> exact a3 _ (by decide))) tr1
  refine PO_o (e := 2) (M1 := M2) (rnM (fst1 (rnP (M 69) nb ng) 0 20)) hI ?_ (Ch_tr (Ch_mo a3 (by decide)) (Ch_mo b2 (by decide))) (fun N hN => ?_)
  · rw [ec11_round, a1]
    simp only [Option.bind_some, Option.toList_some, Option.toList_none, List.cons_append, List.nil_append, bi_eq0, bi_eq1, bi_nem, if_true, if_false, ite_not, Classical.not_not, sg11_round_11]
    exact b1
  · have f69 : N 69 = M 69 := hN 69 (by decide)
    obtain ⟨N1, q1, q2, q3⟩ := m_lays (d + 58) N
    rw [f69] at q2
    have g69 : N1 69 = M 69 := (q3.1 69 (by decide) (by decide)).trans f69
    obtain ⟨N2, s1, s2, s3⟩ := m_round_l (d + 16) nb ng hg (M 69) hW (TR_K hD.2.2.2.2.2.2.2.1) 20 0 N1 rfl g69 q2
    refine ⟨N2, ?_, J6_69 (J6_tr (J6_mo q3 (by decide)) (J6_mo s3 (by decide))) (s2.trans f69.symm)⟩
    rw [ec12_round, q1]
    simp only [Option.bind_some, Option.toList_some, Option.toList_none, List.cons_append, List.nil_append, bi_eq0, bi_eq1, bi_nem, if_true, if_false, ite_not, Classical.not_not, sg12_round_4]
    exact s1
abbrev plS (S : Nat → Int32) (nb ng f n j : Nat) : Nat → Int32 := goS (rowU S nb (mvr (fun i => S (56 + i)) f j)) nb ng 0 n
theorem c_place_l (d nb ng b p f n : Nat) (hg : ng ≤ 9999) (hnn : n ≤ 60) (hb : b < nb) (hp : p < 6) (hf : f < nb) (v : Int32) (S : Nat → Int32) (hW : WS S nb ng) (hz : S (56 + f) = nI b) (hl : ∀ j, j < f → S (56 + j) ≠ nI b) : ∀ (k i : Nat) (M : am_M), i + k = nb → RS M 9 S nb → TR (M 33) (M 34) S 0 → ∃ M', am_lim (am_call (d + 5)) (am_R i11_place) (am_tx i11_place) 36 [.ref 0, .int (nI b), .int (nI p), .int v, .int (nI n), .int (nI i)] [] M = oC (fst1 (fun j => decide (plS S nb ng f n j (2 + 9 * b + (3 + p)) = v)) i k) 2 M' ∧ Ch [23, 24, 25, 26, 27, 28, 29, 35] M M'
  | 0, i, M, h, hR, hT => by
    have : i = nb := by omega
    subst this
    have hn := hW.2.1
    rw [sg11_place_36, hR.1, hW.1]
    simp (disch := omega) only [false_or, nle9, nI_dec9, nI_add, pk_mul, pk_sub, nI_clamp, nI_in9, nI_pos9, nI_lt9, nI_le9, nI_eq9, nI_eq09, nI_le09, am_k_m1, if_true, if_false, ite_not, Classical.not_not]
    rw [if_neg (by omega), ce _ 2 _ (by omega)]
    simp only [Option.bind_some, Option.toList_some, Option.toList_none, List.cons_append, List.nil_append, bi_eq0, bi_eq1, bi_nem, if_true, if_false, ite_not, Classical.not_not, sg11_place_110]
    exact ⟨M, rfl, Ch_rf⟩
  | k + 1, i, M, h, hR, hT => by
    have hn := hW.2.1
    rw [sg11_place_36, hR.1, hW.1]
    simp (disch := omega) only [false_or, nle9, nI_dec9, nI_add, pk_mul, pk_sub, nI_clamp, nI_in9, nI_pos9, nI_lt9, nI_le9, nI_eq9, nI_eq09, nI_le09, am_k_m1, if_true, if_false, ite_not, Classical.not_not]
    rw [if_pos (by omega)]
    obtain ⟨M1, a1, a2, a3⟩ := c_copyFrom (d + 4) 23 9 nb ng (by omega) S hW M hR
    rw [a1]
    simp only [Option.bind_some, Option.toList_some, Option.toList_none, List.cons_append, List.nil_append, bi_eq0, bi_eq1, bi_nem, if_true, if_false, ite_not, Classical.not_not, sg11_place_59]
    rw [c_placeOf _ 23 (by omega) (nI b) M1 nb f (a2.1.trans hW.1) hn hf ((a2.2.2.2.1 f hf).trans hz) (fun j hj => by rw [a2.2.2.2.1 j (by omega)]; exact hl j hj)]
    simp only [Option.bind_some, Option.toList_some, Option.toList_none, List.cons_append, List.nil_append, bi_eq0, bi_eq1, bi_nem, if_true, if_false, ite_not, Classical.not_not, sg11_place_71]
    rw [c_moveBook _ 23 (by omega) M1 f i (by omega) (by omega)]
    simp only [Option.bind_some, Option.toList_some, Option.toList_none, List.cons_append, List.nil_append, bi_eq0, bi_eq1, bi_nem, if_true, if_false, ite_not, Classical.not_not, sg11_place_76]
    have hR2 : RS (am_setc M1 (23 + 5) (mvr (M1 (23 + 5)) f i)) 23 (rowU S nb (mvr (fun i => S (56 + i)) f i)) nb := RS_mv a2 hn hf (by omega) (by refine ⟨?_, ?_, ?_, ?_, ?_⟩ <;> exact stc_ne (by decide)) stc_eq
    have hT2 : TR (am_setc M1 (23 + 5) (mvr (M1 (23 + 5)) f i) 33) (am_setc M1 (23 + 5) (mvr (M1 (23 + 5)) f i) 34) S 0 := by rw [stc_ne (by decide), stc_ne (by decide), a3 33 (by decide), a3 34 (by decide)]; exact hT
    have hC2 : Ch [23, 24, 25, 26, 27, 28, 29, 35] M (am_setc M1 (23 + 5) (mvr (M1 (23 + 5)) f i)) := Ch_tr (Ch_mo a3 (by decide)) (Ch_sc (by decide))
    generalize am_setc M1 (23 + 5) (mvr (M1 (23 + 5)) f i) = M2 at hR2 hT2 hC2
    obtain ⟨M3, b1, b2, b3⟩ := c_think d nb ng 0 n (by omega) (by omega) (rowU S nb (mvr (fun i => S (56 + i)) f i)) (WS_row2 hW (PR_mvr hW.2.2.2.2 hf (by omega))) M2 hR2 (TR_S (by omega) hT2 (fun j hj => rowU_hi (by omega)))
    rw [b1]
    simp only [Option.bind_some, Option.toList_some, Option.toList_none, List.cons_append, List.nil_append, bi_eq0, bi_eq1, bi_nem, if_true, if_false, ite_not, Classical.not_not, sg11_place_83]
    rw [c_said _ 23 (by omega) b p M3 (by omega)]
    simp only [Option.bind_some, Option.toList_some, Option.toList_none, List.cons_append, List.nil_append, bi_eq0, bi_eq1, bi_nem, if_true, if_false, ite_not, Classical.not_not, sg11_place_92]
    rw [(b2.2.2.1 b hb).2.2.2 p hp]
    have hC3 : Ch [23, 24, 25, 26, 27, 28, 29, 35] M M3 := Ch_tr hC2 (Ch_mo b3 (by decide))
    by_cases c : plS S nb ng f n i (2 + 9 * b + (3 + p)) = v
    · rw [if_pos c, fst1_t (decide_eq_true c)]
      exact ⟨M3, rfl, hC3⟩
    · rw [if_neg c, fst1_f (by rw [decide_eq_false c]; decide), nI_add]
      obtain ⟨M4, e1, e2⟩ := c_place_l d nb ng b p f n hg hnn hb hp hf v S hW hz hl k (i + 1) M3 (by omega) (RS_ch hR (by refine ⟨?_, ?_, ?_, ?_, ?_, ?_⟩ <;> exact hC3 _ (by decide))) (by rw [hC3 33 (by decide), hC3 34 (by decide)]; exact hT)
      exact ⟨M4, e1, Ch_tr hC3 e2⟩
theorem m_place_l (d nb ng b p f n : Nat) (hg : ng ≤ 9999) (hnn : n ≤ 60) (hb : b < nb) (hp : p < 6) (hf : f < nb) (v : Int32) (S : Nat → Int32) (hW : WS S nb ng) (hK : txK S 0) (hz : S (56 + f) = nI b) (hl : ∀ j, j < f → S (56 + j) ≠ nI b) : ∀ (k i : Nat) (w : Value) (M : am_M), i + k = nb → M 69 = S → AS M S → ∃ M', am_lim (am_call (d + 43)) (am_R i12_place) (am_tx i12_place) 49 [.ref 68, .int (nI b), .int (nI p), .int v, .int (nI n), .int (nI i), w] [] M = oM (fst1 (fun j => decide (plS S nb ng f n j (2 + 9 * b + (3 + p)) = v)) i k) 2 M' ∧ M' 69 = S ∧ J6 [69, 73] M M'
  | 0, i, w, M, h, hM, hA => by
    have : i = nb := by omega
    subst this
    have hn := hW.2.1
    rw [sg12_place_49, hM, hW.1]
    simp (disch := omega) only [false_or, nle9, nI_dec9, nI_add, pk_mul, pk_sub, nI_clamp, nI_in9, nI_pos9, nI_lt9, nI_le9, nI_eq9, nI_eq09, nI_le09, am_k_m1, if_true, if_false, ite_not, Classical.not_not]
    rw [if_neg (by omega), me2]
    simp only [Option.bind_some, Option.toList_some, Option.toList_none, List.cons_append, List.nil_append, bi_eq0, bi_eq1, bi_nem, if_true, if_false, ite_not, Classical.not_not, sg12_place_105]
    exact ⟨M, rfl, hM, J6_rf⟩
  | k + 1, i, w, M, h, hM, hA => by
    have hn := hW.2.1
    rw [sg12_place_49, hM, hW.1]
    simp (disch := omega) only [false_or, nle9, nI_dec9, nI_add, pk_mul, pk_sub, nI_clamp, nI_in9, nI_pos9, nI_lt9, nI_le9, nI_eq9, nI_eq09, nI_le09, am_k_m1, if_true, if_false, ite_not, Classical.not_not]
    rw [if_pos (by omega), m_goes _ M nb f i (nI b) (by rw [hM]; exact hW.1) hn hf (by omega) (by rw [hM]; exact hz) (fun j hj => by rw [hM]; exact hl j hj), hM]
    simp only [Option.bind_some, Option.toList_some, Option.toList_none, List.cons_append, List.nil_append, bi_eq0, bi_eq1, bi_nem, if_true, if_false, ite_not, Classical.not_not, sg12_place_67]
    have hW2 : WS (rowU S nb (mvr (fun i => S (56 + i)) f i)) nb ng := WS_row2 hW (PR_mvr hW.2.2.2.2 hf (by omega))
    have f2 : am_setc M 69 (rowU S nb (mvr (fun i => S (56 + i)) f i)) 69 = rowU S nb (mvr (fun i => S (56 + i)) f i) := stc_eq
    have hJ2 : J6 [69, 73] M (am_setc M 69 (rowU S nb (mvr (fun i => S (56 + i)) f i))) := J6_sc (by decide) (by decide)
    generalize am_setc M 69 (rowU S nb (mvr (fun i => S (56 + i)) f i)) = M2 at f2 hJ2
    rw [pn0]
    obtain ⟨M3, b1, b2, b3⟩ := m_go d nb ng 0 n (by omega) (by omega) M2 (by rw [f2]; exact hW2) (by rw [f2]; exact txK_S hK (fun j hj => rowU_hi (by omega)))
    rw [f2] at b2
    rw [b1]
    simp only [Option.bind_some, Option.toList_some, Option.toList_none, List.cons_append, List.nil_append, bi_eq0, bi_eq1, bi_nem, if_true, if_false, ite_not, Classical.not_not, sg12_place_76]
    rw [m_pageAt _ b p M3 (by omega), b2]
    simp only [Option.bind_some, Option.toList_some, Option.toList_none, List.cons_append, List.nil_append, bi_eq0, bi_eq1, bi_nem, if_true, if_false, ite_not, Classical.not_not, sg12_place_83]
    obtain ⟨M4, e1, e2, e3⟩ := m_back (d + 42) (plS S nb ng f n i (2 + 9 * b + (3 + p))) S M3 (AS_J (AS_J hA hJ2 (by decide)) b3 (by decide)) (fun j hj => by rw [b2]; exact (goS_hi hW2 (by omega) n).trans (rowU_hi (by omega)))
    rw [e1]
    simp only [Option.bind_some, Option.toList_some, Option.toList_none, List.cons_append, List.nil_append, bi_eq0, bi_eq1, bi_nem, if_true, if_false, ite_not, Classical.not_not, sg12_place_86]
    have hJ4 : J6 [69, 73] M M4 := J6_tr (J6_tr hJ2 b3) (J6_mo e3 (by decide))
    by_cases c : plS S nb ng f n i (2 + 9 * b + (3 + p)) = v
    · rw [if_pos c, fst1_t (decide_eq_true c)]
      exact ⟨M4, rfl, e2, hJ4⟩
    · rw [if_neg c, fst1_f (by rw [decide_eq_false c]; decide), nI_add]
      obtain ⟨M5, g1, g2, g3⟩ := m_place_l d nb ng b p f n hg hnn hb hp hf v S hW hK hz hl k (i + 1) _ M4 (by omega) e2 (AS_J hA hJ4 (by decide))
      exact ⟨M5, g1, g2, J6_tr hJ4 g3⟩
theorem po_place (d : Nat) (b p v n : Int32) (M : am_M) (hI : IV M M) : PO d i11_place i12_place [.int b, .int p, .int v, .int n] M := by
  obtain ⟨nb, ng, hW, hg, hR, hD⟩ := hI.1
  have hn := hW.2.1
  have h7 : M 9 7 = nI nb := hR.1.trans hW.1
  have h8 : M 9 8 = nI ng := hR.2.1.trans hW.2.2.1
  have cB : ∀ (d' : Nat) (x : Int32) (N : am_M), N 9 7 = M 9 7 → am_call (d' + 2) i11_isBook [.ref 0, .int x] N = some (some (.int (bi (0 ≤ x.toInt ∧ x.toInt < nb))), N) := fun d' x N h => c_isBook d' x N nb (h.trans h7) hn
  have cP : ∀ (d' : Nat) (x : Int32) (N : am_M), N 9 7 = M 9 7 → am_call (d' + 2) i11_isPlace [.ref 0, .int x] N = some (some (.int (bi (0 ≤ x.toInt ∧ x.toInt < nb))), N) := fun d' x N h => c_isPlace d' x N nb (h.trans h7) hn
  have cPB : ∀ (d' : Nat) (x y : Int32) (N : am_M), N 9 7 = M 9 7 → am_call (d' + 3) i11_isPageOfBook [.ref 0, .int x, .int y] N = some (some (.int (bi ((0 ≤ x.toInt ∧ x.toInt < nb) ∧ 0 ≤ y.toInt ∧ y.toInt < 6))), N) := fun d' x y N h => c_isPageOfBook d' x y N nb (h.trans h7) hn
  have mB : ∀ (d' : Nat) (x : Int32) (N : am_M), N 69 = M 69 → am_call (d' + 2) i12_isBook [.ref 68, .int x] N = some (some (.int (bi (0 ≤ x.toInt ∧ x.toInt < nb))), N) := fun d' x N h => m_isBook d' x N nb (by rw [h]; exact hW.1) hn
  have cM : ∀ (d' : Nat) (x : Int32) (N : am_M), am_call (d' + 1) i11_isWithin [.int x, .int (nI 0), .int (nI 60)] N = some (some (.int (bi (0 ≤ x.toInt ∧ x.toInt < 61))), N) := fun d' x N => (cW d' x 0 60 N (by omega) (by omega)).trans (bi_out (by omega))
  have mM : ∀ (d' : Nat) (x : Int32) (N : am_M), am_call (d' + 1) i12_in [.long x.toInt64, .long (lN 0), .long (lN 60)] N = some (some (.int (bi (0 ≤ x.toInt ∧ x.toInt < 61))), N) := fun d' x N => (mW d' x 0 60 N (by omega) (by omega)).trans (bi_out (by omega))
  by_cases hb : 0 ≤ b.toInt ∧ b.toInt < nb
  · by_cases hp : 0 ≤ p.toInt ∧ p.toInt < 6
    · by_cases hv : 0 ≤ v.toInt ∧ v.toInt < 100
      · by_cases hn0 : 0 ≤ n.toInt ∧ n.toInt < 61
        · obtain ⟨n', hn', rfl⟩ := i32_of (n := 61) hn0.1 hn0.2 (by omega)
          obtain ⟨b', hb', rfl⟩ := i32_of (n := nb) hb.1 hb.2 (by omega)
          obtain ⟨p', hp', rfl⟩ := i32_of (n := 6) hp.1 hp.2 (by omega)
          obtain ⟨f, hf, z, hz⟩ := WS_pl hW hb'
          obtain ⟨M2, b1, b2⟩ := c_place_l (d + 54) nb ng b' p' f n' hg (by omega) hb' hp' hf v (M 69) hW z hz nb 0 M (by omega) hR hD.2.2.2.2.2.2.2.1
          refine PO_o (e := 2) (M1 := M2) (fst1 (fun j => decide (plS (M 69) nb ng f n' j (2 + 9 * b' + (3 + p')) = v)) 0 nb) hI ?_ (Ch_mo b2 (by decide)) (fun N hN => ?_)
          · rw [ec11_place, cPB _ _ _ _ rfl]
            simp only [Option.bind_some, Option.toList_some, Option.toList_none, List.cons_append, List.nil_append, bi_eq0, bi_eq1, bi_nem, if_true, if_false, ite_not, Classical.not_not, sg11_place_6]
            rw [if_pos (⟨hb, hp⟩), c_isSaid]
            simp only [Option.bind_some, Option.toList_some, Option.toList_none, List.cons_append, List.nil_append, bi_eq0, bi_eq1, bi_nem, if_true, if_false, ite_not, Classical.not_not, sg11_place_13]
            rw [if_pos (hv), cM]
            simp only [Option.bind_some, Option.toList_some, Option.toList_none, List.cons_append, List.nil_append, bi_eq0, bi_eq1, bi_nem, if_true, if_false, ite_not, Classical.not_not, sg11_place_24]
            rw [if_pos (hn0)]
            exact b1
          · have f69 : N 69 = M 69 := hN 69 (by decide)
            obtain ⟨N1, q1, q2, q3⟩ := m_lays (d + 58) N
            rw [f69] at q2
            have g69 : N1 69 = M 69 := (q3.1 69 (by decide) (by decide)).trans f69
            obtain ⟨N2, s1, s2, s3⟩ := m_place_l (d + 16) nb ng b' p' f n' hg (by omega) hb' hp' hf v (M 69) hW (TR_K hD.2.2.2.2.2.2.2.1) z hz nb 0 .null N1 (by omega) g69 q2
            refine ⟨N2, ?_, J6_69 (J6_tr (J6_mo q3 (by decide)) (J6_mo s3 (by decide))) (s2.trans f69.symm)⟩
            rw [ec12_place, mB _ _ _ f69]
            simp only [Option.bind_some, Option.toList_some, Option.toList_none, List.cons_append, List.nil_append, bi_eq0, bi_eq1, bi_nem, if_true, if_false, ite_not, Classical.not_not, sg12_place_5]
            rw [if_pos (hb), m_isPage]
            simp only [Option.bind_some, Option.toList_some, Option.toList_none, List.cons_append, List.nil_append, bi_eq0, bi_eq1, bi_nem, if_true, if_false, ite_not, Classical.not_not, sg12_place_12]
            rw [if_pos (hp), m_isSaid]
            simp only [Option.bind_some, Option.toList_some, Option.toList_none, List.cons_append, List.nil_append, bi_eq0, bi_eq1, bi_nem, if_true, if_false, ite_not, Classical.not_not, sg12_place_19]
            rw [if_pos (hv), mM]
            simp only [Option.bind_some, Option.toList_some, Option.toList_none, List.cons_append, List.nil_append, bi_eq0, bi_eq1, bi_nem, if_true, if_false, ite_not, Classical.not_not, sg12_place_32]
            rw [if_pos (hn0), q1]
            simp only [Option.bind_some, Option.toList_some, Option.toList_none, List.cons_append, List.nil_append, bi_eq0, bi_eq1, bi_nem, if_true, if_false, ite_not, Classical.not_not, sg12_place_46]
            exact s1
        · refine PO_e (k := 1) hI (M1 := M) ?_ Ch_rf ⟨eC M 1, ?_, J6_rf⟩
          · rw [ec11_place, cPB _ _ _ _ rfl]
            simp only [Option.bind_some, Option.toList_some, Option.toList_none, List.cons_append, List.nil_append, bi_eq0, bi_eq1, bi_nem, if_true, if_false, ite_not, Classical.not_not, sg11_place_6]
            rw [if_pos (⟨hb, hp⟩), c_isSaid]
            simp only [Option.bind_some, Option.toList_some, Option.toList_none, List.cons_append, List.nil_append, bi_eq0, bi_eq1, bi_nem, if_true, if_false, ite_not, Classical.not_not, sg11_place_13]
            rw [if_pos (hv), cM]
            simp only [Option.bind_some, Option.toList_some, Option.toList_none, List.cons_append, List.nil_append, bi_eq0, bi_eq1, bi_nem, if_true, if_false, ite_not, Classical.not_not, sg11_place_24]
            rw [if_neg (hn0), ce _ 1 _ (by omega)]
            simp only [Option.bind_some, Option.toList_some, Option.toList_none, List.cons_append, List.nil_append, bi_eq0, bi_eq1, bi_nem, if_true, if_false, ite_not, Classical.not_not, sg11_place_32]
          · rw [ec12_place, mB _ _ _ (eC_b (by decide))]
            simp only [Option.bind_some, Option.toList_some, Option.toList_none, List.cons_append, List.nil_append, bi_eq0, bi_eq1, bi_nem, if_true, if_false, ite_not, Classical.not_not, sg12_place_5]
            rw [if_pos (hb), m_isPage]
            simp only [Option.bind_some, Option.toList_some, Option.toList_none, List.cons_append, List.nil_append, bi_eq0, bi_eq1, bi_nem, if_true, if_false, ite_not, Classical.not_not, sg12_place_12]
            rw [if_pos (hp), m_isSaid]
            simp only [Option.bind_some, Option.toList_some, Option.toList_none, List.cons_append, List.nil_append, bi_eq0, bi_eq1, bi_nem, if_true, if_false, ite_not, Classical.not_not, sg12_place_19]
            rw [if_pos (hv), mM]
            simp only [Option.bind_some, Option.toList_some, Option.toList_none, List.cons_append, List.nil_append, bi_eq0, bi_eq1, bi_nem, if_true, if_false, ite_not, Classical.not_not, sg12_place_32]
            rw [if_neg (hn0), me1]
            simp only [Option.bind_some, Option.toList_some, Option.toList_none, List.cons_append, List.nil_append, bi_eq0, bi_eq1, bi_nem, if_true, if_false, ite_not, Classical.not_not, sg12_place_41]
      · refine PO_e (k := 1) hI (M1 := M) ?_ Ch_rf ⟨eC M 1, ?_, J6_rf⟩
        · rw [ec11_place, cPB _ _ _ _ rfl]
          simp only [Option.bind_some, Option.toList_some, Option.toList_none, List.cons_append, List.nil_append, bi_eq0, bi_eq1, bi_nem, if_true, if_false, ite_not, Classical.not_not, sg11_place_6]
          rw [if_pos (⟨hb, hp⟩), c_isSaid]
          simp only [Option.bind_some, Option.toList_some, Option.toList_none, List.cons_append, List.nil_append, bi_eq0, bi_eq1, bi_nem, if_true, if_false, ite_not, Classical.not_not, sg11_place_13]
          rw [if_neg (hv), ce _ 1 _ (by omega)]
          simp only [Option.bind_some, Option.toList_some, Option.toList_none, List.cons_append, List.nil_append, bi_eq0, bi_eq1, bi_nem, if_true, if_false, ite_not, Classical.not_not, sg11_place_32]
        · rw [ec12_place, mB _ _ _ (eC_b (by decide))]
          simp only [Option.bind_some, Option.toList_some, Option.toList_none, List.cons_append, List.nil_append, bi_eq0, bi_eq1, bi_nem, if_true, if_false, ite_not, Classical.not_not, sg12_place_5]
          rw [if_pos (hb), m_isPage]
          simp only [Option.bind_some, Option.toList_some, Option.toList_none, List.cons_append, List.nil_append, bi_eq0, bi_eq1, bi_nem, if_true, if_false, ite_not, Classical.not_not, sg12_place_12]
          rw [if_pos (hp), m_isSaid]
          simp only [Option.bind_some, Option.toList_some, Option.toList_none, List.cons_append, List.nil_append, bi_eq0, bi_eq1, bi_nem, if_true, if_false, ite_not, Classical.not_not, sg12_place_19]
          rw [if_neg (hv), me1]
          simp only [Option.bind_some, Option.toList_some, Option.toList_none, List.cons_append, List.nil_append, bi_eq0, bi_eq1, bi_nem, if_true, if_false, ite_not, Classical.not_not, sg12_place_41]
    · refine PO_e (k := 1) hI (M1 := M) ?_ Ch_rf ⟨eC M 1, ?_, J6_rf⟩
      · rw [ec11_place, cPB _ _ _ _ rfl]
        simp only [Option.bind_some, Option.toList_some, Option.toList_none, List.cons_append, List.nil_append, bi_eq0, bi_eq1, bi_nem, if_true, if_false, ite_not, Classical.not_not, sg11_place_6]
        rw [if_neg (fun q => hp q.2), ce _ 1 _ (by omega)]
        simp only [Option.bind_some, Option.toList_some, Option.toList_none, List.cons_append, List.nil_append, bi_eq0, bi_eq1, bi_nem, if_true, if_false, ite_not, Classical.not_not, sg11_place_32]
      · rw [ec12_place, mB _ _ _ (eC_b (by decide))]
        simp only [Option.bind_some, Option.toList_some, Option.toList_none, List.cons_append, List.nil_append, bi_eq0, bi_eq1, bi_nem, if_true, if_false, ite_not, Classical.not_not, sg12_place_5]
        rw [if_pos (hb), m_isPage]
        simp only [Option.bind_some, Option.toList_some, Option.toList_none, List.cons_append, List.nil_append, bi_eq0, bi_eq1, bi_nem, if_true, if_false, ite_not, Classical.not_not, sg12_place_12]
        rw [if_neg (hp), me1]
        simp only [Option.bind_some, Option.toList_some, Option.toList_none, List.cons_append, List.nil_append, bi_eq0, bi_eq1, bi_nem, if_true, if_false, ite_not, Classical.not_not, sg12_place_41]
  · refine PO_e (k := 1) hI (M1 := M) ?_ Ch_rf ⟨eC M 1, ?_, J6_rf⟩
    · rw [ec11_place, cPB _ _ _ _ rfl]
      simp only [Option.bind_some, Option.toList_some, Option.toList_none, List.cons_append, List.nil_append, bi_eq0, bi_eq1, bi_nem, if_true, if_false, ite_not, Classical.not_not, sg11_place_6]
      rw [if_neg (fun q => hb q.1), ce _ 1 _ (by omega)]
      simp only [Option.bind_some, Option.toList_some, Option.toList_none, List.cons_append, List.nil_append, bi_eq0, bi_eq1, bi_nem, if_true, if_false, ite_not, Classical.not_not, sg11_place_32]
    · rw [ec12_place, mB _ _ _ (eC_b (by decide))]
      simp only [Option.bind_some, Option.toList_some, Option.toList_none, List.cons_append, List.nil_append, bi_eq0, bi_eq1, bi_nem, if_true, if_false, ite_not, Classical.not_not, sg12_place_5]
      rw [if_neg (hb), me1]
      simp only [Option.bind_some, Option.toList_some, Option.toList_none, List.cons_append, List.nil_append, bi_eq0, bi_eq1, bi_nem, if_true, if_false, ite_not, Classical.not_not, sg12_place_41]
abbrev ckP (S : Nat → Int32) (nb ng : Nat) : Nat → Bool := fun j => !(decide (nI (alF (goS S nb ng 0 (j + 1)) nb) = S (217 + j)))
def ckR (o : Option Nat) : Int32 := match o with
  | some j => nI (1 + j)
  | none => nI 0
theorem c_check_l (d nb ng w : Nat) (hg : ng ≤ 9999) (hw : w ≤ 20) (S : Nat → Int32) (hW : WS S nb ng) : ∀ (k i : Nat) (M : am_M), i + k = w → RS M 23 (goS S nb ng 0 i) nb → TR (M 33) (M 34) S 0 → TR (M 37) (M 38) S 1 → (∀ j, j < 20 → M 32 j = S (217 + j)) → ∃ M', am_lim (am_call (d + 5)) (am_R i11_check) (am_tx i11_check) 29 [.ref 0, .int (nI w), .int (nI i)] [] M = some (some (.int (ckR (fst1 (ckP S nb ng) i k))), M') ∧ Ch [23, 27, 29, 35, 39] M M'
  | 0, i, M, h, hR, hT, hT1, h32 => by
    have : i = w := by omega
    subst this
    rw [sg11_check_29]
    simp (disch := omega) only [false_or, nle9, nI_dec9, nI_add, pk_mul, pk_sub, nI_clamp, nI_in9, nI_pos9, nI_lt9, nI_le9, nI_eq9, nI_eq09, nI_le09, am_k_m1, if_true, if_false, ite_not, Classical.not_not]
    rw [if_neg (by omega)]
    exact ⟨M, rfl, Ch_rf⟩
  | k + 1, i, M, h, hR, hT, hT1, h32 => by
    have hn := hW.2.1
    rw [sg11_check_29]
    simp (disch := omega) only [false_or, nle9, nI_dec9, nI_add, pk_mul, pk_sub, nI_clamp, nI_in9, nI_pos9, nI_lt9, nI_le9, nI_eq9, nI_eq09, nI_le09, am_k_m1, if_true, if_false, ite_not, Classical.not_not]
    rw [if_pos (by omega)]
    obtain ⟨M1, a1, a2, a3⟩ := c_passNight (d + 1) 23 nb (ng + i) 0 (by omega) (goS S nb ng 0 i) (goS_WS hW i) (by omega) (by omega) M hR (TR_S (by omega) hT (fun j hj => goS_hi hW (by omega) i))
    rw [a1]
    simp only [Option.bind_some, Option.toList_some, Option.toList_none, List.cons_append, List.nil_append, bi_eq0, bi_eq1, bi_nem, if_true, if_false, ite_not, Classical.not_not, sg11_check_46]
    have a2' : RS M1 23 (goS S nb ng 0 (i + 1)) nb := a2
    obtain ⟨M2, b1, b2⟩ := c_allSense d 23 nb (by omega) hn (goS S nb ng 0 (i + 1)) (goS_WS hW (i + 1)).1 M1 a2' (by rw [a3 37 (by decide), a3 38 (by decide)]; exact TR_S (by omega) hT1 (fun j hj => goS_hi hW (by omega) (i + 1)))
    rw [b1]
    simp only [Option.bind_some, Option.toList_some, Option.toList_none, List.cons_append, List.nil_append, bi_eq0, bi_eq1, bi_nem, if_true, if_false, ite_not, Classical.not_not, sg11_check_58]
    simp (disch := omega) only [false_or, nle9, nI_dec9, nI_add, pk_mul, pk_sub, nI_clamp, nI_in9, nI_pos9, nI_lt9, nI_le9, nI_eq9, nI_eq09, nI_le09, am_k_m1, if_true, if_false, ite_not, Classical.not_not]
    have hC : Ch [23, 27, 29, 35, 39] M M2 := Ch_tr (Ch_mo a3 (by decide)) (Ch_mo b2 (by decide))
    rw [hC 32 (by decide), h32 i (by omega)]
    have hP : ckP S nb ng i = !(decide (nI (alF (goS S nb ng 0 (i + 1)) nb) = S (217 + i))) := rfl
    by_cases c : nI (alF (goS S nb ng 0 (i + 1)) nb) = S (217 + i)
    · rw [if_pos c, fst1_f (by rw [hP, decide_eq_true c]; decide)]
      obtain ⟨M3, e1, e2⟩ := c_check_l d nb ng w hg hw S hW k (i + 1) M2 (by omega) (RS_ch a2' (by refine ⟨?_, ?_, ?_, ?_, ?_, ?_⟩ <;> exact b2 _ (by decide))) (by rw [hC 33 (by decide), hC 34 (by decide)]; exact hT) (by rw [hC 37 (by decide), hC 38 (by decide)]; exact hT1) (by rw [hC 32 (by decide)]; exact h32)
      exact ⟨M3, e1, Ch_tr hC e2⟩
    · rw [if_neg c, fst1_t (by rw [hP, decide_eq_false c]; rfl)]
      exact ⟨M2, rfl, hC⟩
theorem m_check_b (d nb ng w i : Nat) (x : Int32) (S : Nat → Int32) (M : am_M) (hA : AS M S) (hhi : ∀ j, 62 ≤ j → M 69 j = S j) : ∃ M', (am_call (d + 1) i12_takesBack [.ref 68, .int x] (am_up M 69 64 (nI 0))).bind (fun q => am_lim (am_call (d + 1)) (am_R i12_check) (am_tx i12_check) 74 [.ref 68, .int (nI w), .int x, .int (nI i)] (q.1.toList ++ []) q.2) = some (some (.int x), M') ∧ M' 69 = upd S 64 (nI 0) ∧ J6 [69, 73] M M' := by
  obtain ⟨M1, a1, a2, a3⟩ := m_back d x (upd S 64 (nI 0)) (am_up M 69 64 (nI 0)) (fun j hj => by rw [au_b (by decide), upd_ne (by omega)]; exact hA j hj) (fun j hj => by
    by_cases c : j = 64
    · subst c; rw [au_s, upd_eq]
    · rw [au_j c, upd_ne c]; exact hhi j hj)
  rw [a1]
  simp only [Option.bind_some, Option.toList_some, Option.toList_none, List.cons_append, List.nil_append, bi_eq0, bi_eq1, bi_nem, if_true, if_false, ite_not, Classical.not_not, sg12_check_74]
  exact ⟨M1, rfl, a2, J6_tr (J6_up (by decide) (by decide)) (J6_mo a3 (by decide))⟩
theorem m_check_l (d nb ng w : Nat) (hg : ng ≤ 9999) (hw : w ≤ 20) (S : Nat → Int32) (hW : WS S nb ng) (hK : txK S 0) (hK1 : txK S 1) : ∀ (k i : Nat) (M : am_M), i + k = w → M 69 = goS S nb ng 0 i → AS M S → ∃ M', am_lim (am_call (d + 43)) (am_R i12_check) (am_tx i12_check) 16 [.ref 68, .int (nI w), .int (nI 0), .int (nI i)] [] M = some (some (.int (ckR (fst1 (ckP S nb ng) i k))), M') ∧ M' 69 = upd S 64 (nI 0) ∧ J6 [69, 73] M M'
  | 0, i, M, h, hM, hA => by
    have : i = w := by omega
    subst this
    rw [sg12_check_16]
    simp (disch := omega) only [nI_lt9]
    rw [if_neg (by omega)]
    exact m_check_b (d + 42) nb ng i i (nI 0) S M hA (fun j hj => by rw [hM]; exact goS_hi hW (by omega) i)
  | k + 1, i, M, h, hM, hA => by
    have hn := hW.2.1
    rw [sg12_check_16]
    simp (disch := omega) only [nI_lt9]
    rw [if_pos (by omega), if_pos nI_0, pn0]
    obtain ⟨M1, a1, a2, a3, a4⟩ := m_night (d + 1) nb (ng + i) 0 (by omega) (by omega) M (hM ▸ goS_WS hW i) (by rw [hM]; exact txK_S hK (fun j hj => goS_hi hW (by omega) i))
    rw [a1]
    simp only [Option.bind_some, Option.toList_some, Option.toList_none, List.cons_append, List.nil_append, bi_eq0, bi_eq1, bi_nem, if_true, if_false, ite_not, Classical.not_not, sg12_check_30]
    have a2' : M1 69 = goS S nb ng 0 (i + 1) := by rw [a2, hM]; rfl
    obtain ⟨M2, b1, b2⟩ := m_allSense d nb hn M1 (by rw [a2']; exact (goS_WS hW (i + 1)).1) (by rw [a2']; exact txK_S hK1 (fun j hj => goS_hi hW (by omega) (i + 1)))
    rw [a2'] at b1
    rw [b1]
    simp only [Option.bind_some, Option.toList_some, Option.toList_none, List.cons_append, List.nil_append, bi_eq0, bi_eq1, bi_nem, if_true, if_false, ite_not, Classical.not_not, sg12_check_34]
    simp (disch := omega) only [false_or, nle9, nI_dec9, nI_add, pk_mul, pk_sub, nI_clamp, nI_in9, nI_pos9, nI_lt9, nI_le9, nI_eq9, nI_eq09, nI_le09, am_k_m1, if_true, if_false, ite_not, Classical.not_not]
    have f69 : M2 69 = goS S nb ng 0 (i + 1) := (J68_69 b2).trans a2'
    have hJ : J6 [69, 73] M M2 := J6_tr a4 (J6_J b2)
    have hA2 := AS_J hA hJ (by decide)
    have hhi : ∀ j, 62 ≤ j → M2 69 j = S j := fun j hj => by rw [f69]; exact goS_hi hW (by omega) (i + 1)
    rw [hhi (217 + i) (by omega)]
    have hP : ckP S nb ng i = !(decide (nI (alF (goS S nb ng 0 (i + 1)) nb) = S (217 + i))) := rfl
    by_cases c : nI (alF (goS S nb ng 0 (i + 1)) nb) = S (217 + i)
    · rw [if_pos c, fst1_f (by rw [hP, decide_eq_true c]; decide)]
      obtain ⟨M3, e1, e2, e3⟩ := m_check_l d nb ng w hg hw S hW hK hK1 k (i + 1) M2 (by omega) f69 hA2
      exact ⟨M3, e1, e2, J6_tr hJ e3⟩
    · rw [if_neg c, fst1_t (by rw [hP, decide_eq_false c]; rfl), sg12_check_16, if_neg (show ¬ nI (1 + i) = 0 by rw [nI_eq09 (by omega)]; omega), ite_self]
      obtain ⟨M3, e1, e2, e3⟩ := m_check_b (d + 42) nb ng w (i + 1) (nI (1 + i)) S M2 hA2 hhi
      exact ⟨M3, e1, e2, J6_tr hJ e3⟩
theorem po_check (d : Nat) (M : am_M) (hI : IV M M) : PO d i11_check i12_check [] M := by
  obtain ⟨nb, ng, hW, hg, hR, hD⟩ := hI.1
  have hn := hW.2.1
  have h7 : M 9 7 = nI nb := hR.1.trans hW.1
  have h8 : M 9 8 = nI ng := hR.2.1.trans hW.2.2.1
  have cB : ∀ (d' : Nat) (x : Int32) (N : am_M), N 9 7 = M 9 7 → am_call (d' + 2) i11_isBook [.ref 0, .int x] N = some (some (.int (bi (0 ≤ x.toInt ∧ x.toInt < nb))), N) := fun d' x N h => c_isBook d' x N nb (h.trans h7) hn
  have cP : ∀ (d' : Nat) (x : Int32) (N : am_M), N 9 7 = M 9 7 → am_call (d' + 2) i11_isPlace [.ref 0, .int x] N = some (some (.int (bi (0 ≤ x.toInt ∧ x.toInt < nb))), N) := fun d' x N h => c_isPlace d' x N nb (h.trans h7) hn
  have cPB : ∀ (d' : Nat) (x y : Int32) (N : am_M), N 9 7 = M 9 7 → am_call (d' + 3) i11_isPageOfBook [.ref 0, .int x, .int y] N = some (some (.int (bi ((0 ≤ x.toInt ∧ x.toInt < nb) ∧ 0 ≤ y.toInt ∧ y.toInt < 6))), N) := fun d' x y N h => c_isPageOfBook d' x y N nb (h.trans h7) hn
  have mB : ∀ (d' : Nat) (x : Int32) (N : am_M), N 69 = M 69 → am_call (d' + 2) i12_isBook [.ref 68, .int x] N = some (some (.int (bi (0 ≤ x.toInt ∧ x.toInt < nb))), N) := fun d' x N h => m_isBook d' x N nb (by rw [h]; exact hW.1) hn
  have hD0 := hD
  obtain ⟨r1, r2, r3, r4, ⟨w, hw, z⟩, r6, r7, r8, r9⟩ := hD
  have hR0 : RS (am_up M 30 6 (nI 0)) 9 (M 69) nb := RS_ch hR (by refine ⟨?_, ?_, ?_, ?_, ?_, ?_⟩ <;> exact au_b (by decide))
  obtain ⟨M1, a1, a2, a3⟩ := c_copyFrom (d + 58) 23 9 nb ng (by omega) (M 69) hW (am_up M 30 6 (nI 0)) hR0
  have cu : ∀ a, a ∉ [23, 23 + 1, 23 + 2, 23 + 3, 23 + 4, 23 + 5] → a ≠ 30 → M1 a = M a := fun a ha hb => (a3 a ha).trans (au_b hb)
  obtain ⟨M2, b1, b2⟩ := c_check_l (d + 54) nb ng w hg hw (M 69) hW w 0 M1 (by omega) a2 (by rw [cu 33 (by decide) (by decide), cu 34 (by decide) (by decide)]; exact r8) (by rw [cu 37 (by decide) (by decide), cu 38 (by decide) (by decide)]; exact r9) (by rw [cu 32 (by decide) (by decide)]; exact r7)
  have f69 : M2 69 = M 69 := (b2 69 (by decide)).trans (cu 69 (by decide) (by decide))
  have f30 : M2 30 = upd (M 30) 6 (nI 0) := by rw [b2 30 (by decide), a3 30 (by decide), au_a]
  obtain ⟨N1, q1, q2, q3⟩ := m_lays (d + 58) M2
  rw [f69] at q2
  have g69 : N1 69 = M 69 := (q3.1 69 (by decide) (by decide)).trans f69
  obtain ⟨N2, s1, s2, s3⟩ := m_check_l (d + 16) nb ng w hg hw (M 69) hW (TR_K r8) (TR_K r9) w 0 N1 (by omega) g69 q2
  have hJ2 : J6 [71, 69, 73] M2 N2 := J6_tr (J6_mo q3 (by decide)) (J6_mo s3 (by decide))
  have hJ : J6 [30, 23, 24, 25, 26, 27, 28, 29, 35, 39, 71, 69, 73] M N2 := J6_tr (J6_tr (J6_tr (J6_up (by decide) (by decide)) (Ch_J6 (Ch_mo a3 (by decide)) (by decide))) (Ch_J6 (Ch_mo b2 (by decide)) (by decide))) (J6_mo hJ2 (by decide))
  refine ⟨ckR (fst1 (ckP (M 69) nb ng) 0 w), M2, N2, ?_, ?_, IV_S hI hJ (by decide) ⟨nb, ng, ?_, hg, ?_, ?_⟩⟩
  · rw [ec11_check, a1]
    simp only [Option.bind_some, Option.toList_some, Option.toList_none, List.cons_append, List.nil_append, bi_eq0, bi_eq1, bi_nem, if_true, if_false, ite_not, Classical.not_not, sg11_check_27]
    rw [show M 30 6 = nI w from r6.trans z]
    exact b1
  · rw [ec12_check, q1]
    simp only [Option.bind_some, Option.toList_some, Option.toList_none, List.cons_append, List.nil_append, bi_eq0, bi_eq1, bi_nem, if_true, if_false, ite_not, Classical.not_not, sg12_check_4]
    rw [g69, z]
    exact s1
  · rw [s2]
    exact WS_lo hW (fun j hj => upd_ne (by omega))
  · rw [s2]
    exact RS_lo hR hn (fun j hj => upd_ne (by omega)) (fun a ha => J6_c hJ (by revert a; decide) (by revert a; decide))
  · rw [s2]
    have g30 : N2 30 = upd (M 30) 6 (nI 0) := (hJ2.1 30 (by decide) (by decide)).trans f30
    have hc : ∀ a ∈ [31, 32, 33, 34, 37, 38], N2 a = M a := fun a ha => J6_c hJ (by revert a; decide) (by revert a; decide)
    refine ⟨?_, ?_, fun i hi => ?_, ?_, ⟨0, by omega, upd_eq⟩, ?_, fun i hi => ?_, TR_S3 (S := M 69) ?_ (upd_ne (by omega)) (fun i hi => upd_ne (by omega)), TR_S3 (S := M 69) ?_ (upd_ne (by omega)) (fun i hi => upd_ne (by omega))⟩
    · rw [upd_ne (by omega)]; exact r1
    · rw [upd_ne (by omega), g30, upd_ne (by decide)]; exact r2
    · rw [upd_ne (by omega), hc (30 + 1) (by decide)]; exact r3 i hi
    · rw [upd_ne (by omega), g30, upd_ne (by decide)]; exact r4
    · rw [upd_eq, g30, upd_eq]
    · rw [upd_ne (by omega), hc (30 + 2) (by decide)]; exact r7 i hi
    · rw [hc (30 + 3) (by decide), hc (30 + 4) (by decide)]; exact r8
    · rw [hc (30 + 7) (by decide), hc (30 + 8) (by decide)]; exact r9
