/-! the class's night, its second loop -/
theorem NI2_up {M : am_M} {t : Nat} (ht : t = 9 ∨ t = 23) {S : Nat → Int32} {nb ng pg pn i : Nat} (hW : WS S nb ng) (hp : pg < 6) (hi : i < nb) (h : NI2 M t S nb pg pn i) : NI2 (am_up M (t + 4) (bk S i * 6 + pg) (nvA S nb pg pn i)) t S nb pg pn (i + 1) := by
  obtain ⟨r1, r2, r3, r4, r5, r6, r7⟩ := h
  refine ⟨?_, ?_, fun b hb => ⟨?_, ?_, ?_, fun p hp6 => ?_⟩, fun q hq => ?_, fun q hq => ?_, ?_, fun b hb h6 => ?_, fun b hb h6 p hp6 => ?_⟩
  · rw [au_b (by omega)]; exact r1
  · rw [au_b (by omega)]; exact r2
  · rw [au_b (by omega)]; exact (r3 b hb).1
  · rw [au_b (by omega)]; exact (r3 b hb).2.1
  · rw [au_b (by omega)]; exact (r3 b hb).2.2.1
  · show _ = upd _ _ _ _
    by_cases c : b = bk S i ∧ p = pg
    · obtain ⟨rfl, rfl⟩ := c
      rw [au_s, upd_eq]
    · rw [au_j (by omega), upd_ne (by omega)]
      exact (r3 b hb).2.2.2 p hp6
  · rw [au_b (by omega)]; exact r4 q hq
  · rw [au_b (by omega)]; exact r5 q hq
  · rw [au_b (by omega), au_b (by omega)]; exact r6
  · rw [au_b (by omega)]; exact r7.1 b hb h6
  · have hbk := (WS_row hW hi).1
    rw [au_j (by omega)]; exact r7.2 b hb h6 p hp6
theorem NI2_gl {M : am_M} {t : Nat} {S : Nat → Int32} {nb ng pg pn i : Nat} (hW : WS S nb ng) (hi : i < nb) (hv : nvA S nb pg pn i = oA S pg i) (h : NI2 M t S nb pg pn i) : NI2 M t S nb pg pn (i + 1) := by
  obtain ⟨r1, r2, r3, r4, r5, r6, r7⟩ := h
  refine ⟨r1, r2, fun b hb => ⟨(r3 b hb).1, (r3 b hb).2.1, (r3 b hb).2.2.1, fun p hp6 => ?_⟩, r4, r5, r6, r7⟩
  rw [(r3 b hb).2.2.2 p hp6]
  show _ = upd _ _ _ _
  by_cases c : 2 + 9 * b + (3 + p) = 2 + 9 * bk S i + (3 + pg)
  · rw [c, upd_eq, hv]
    exact ntF_o i (fun q hq e => by
      have : bk S i = bk S q := by omega
      have := WS_inj hW hi (by omega) this
      omega)
  · rw [upd_ne c]
theorem ntF_i {S : Nat → Int32} {nb ng pg pn i : Nat} (hW : WS S nb ng) (hi : i < nb) : ntF S nb pg pn i (2 + 9 * bk S i + (3 + pg)) = oA S pg i :=
  ntF_o i (fun q hq e => by
    have : bk S i = bk S q := by omega
    have := WS_inj hW hi (by omega) this
    omega)
theorem c_night_l (d t nb ng pg pn i : Nat) (ht : t = 9 ∨ t = 23) (S : Nat → Int32) (hW : WS S nb ng) (hp : pg < 6) (hpn : pn ≤ 6) (hi : i < nb) (M : am_M) (h : NI2 M t S nb pg pn i) (x4 x6 : Int32) (w7 w8 w9 w10 w11 : Value) : am_lim (am_call (d + 3)) (am_R i8_passNight) (am_tx i8_passNight) 97 [.ref t, .ref 30, .int (nI pn), .int (nI pg), .int x4, .int (nI i), .int x6, w7, w8, w9, w10, w11] [.int (oA S pg i)] M = am_lim (am_call (d + 3)) (am_R i8_passNight) (am_tx i8_passNight) 120 [.ref t, .ref 30, .int (nI pn), .int (nI pg), .int x4, .int (nI i), .int x6, .int (oA S pg i), w8, w9, w10, w11] [.int (lA S pg pn i)] M := by
  have hn := hW.2.1
  obtain ⟨r1, r2, r3, r4, r5, r6, r7⟩ := h
  rw [sg8_passNight_k2_97 _ t ht]
  simp (disch := omega) only [false_or, nle9, nI_dec9, nI_add, pk_mul, pk_sub, nI_clamp, nI_in9, nI_pos9, nI_lt9, nI_le9, nI_eq9, nI_eq09, nI_le09, am_k_m1, if_true, if_false, ite_not, Classical.not_not]
  unfold lA
  by_cases c : i = pn
  · rw [if_pos c, if_pos (Or.inr c)]
  · rw [if_neg c]
    by_cases c0 : i = 0
    · subst c0
      rw [if_pos (Or.inl rfl), c_givenAt_lo _ t ht]
      rfl
    · rw [if_neg (by omega)]
      obtain ⟨q, rfl⟩ : ∃ q, i = q + 1 := ⟨i - 1, by omega⟩
      have hq : q < nb := by omega
      obtain ⟨hb, e⟩ := WS_row hW hq
      rw [pk_sub (by omega), Nat.add_sub_cancel, c_givenAt _ t ht q _ nb _ M (r1.trans hW.1) hn hq ((r4 q hq).trans e) (by omega), (r3 _ hb).2.2.1, r5 q hq]
      rfl
theorem c_night_r (d t nb ng pg pn i : Nat) (ht : t = 9 ∨ t = 23) (S : Nat → Int32) (hW : WS S nb ng) (hp : pg < 6) (hpn : pn ≤ 6) (hi : i < nb) (M : am_M) (h : NI2 M t S nb pg pn i) (x4 x6 l : Int32) (w8 w9 w10 w11 : Value) : am_lim (am_call (d + 3)) (am_R i8_passNight) (am_tx i8_passNight) 120 [.ref t, .ref 30, .int (nI pn), .int (nI pg), .int x4, .int (nI i), .int x6, .int (oA S pg i), w8, w9, w10, w11] [.int l] M = am_lim (am_call (d + 3)) (am_R i8_passNight) (am_tx i8_passNight) 145 [.ref t, .ref 30, .int (nI pn), .int (nI pg), .int x4, .int (nI i), .int x6, .int (oA S pg i), .int l, w9, w10, w11] [.int (rA S nb pg pn i)] M := by
  have hn := hW.2.1
  obtain ⟨r1, r2, r3, r4, r5, r6, r7⟩ := h
  rw [sg8_passNight_k2_120 _ t ht]
  simp (disch := omega) only [false_or, nle9, nI_dec9, nI_add, pk_mul, pk_sub, nI_clamp, nI_in9, nI_pos9, nI_lt9, nI_le9, nI_eq9, nI_eq09, nI_le09, am_k_m1, if_true, if_false, ite_not, Classical.not_not]
  unfold rA
  by_cases c : i + 1 = pn
  · rw [if_pos c, if_pos (Or.inl c)]
  · rw [if_neg c]
    by_cases c0 : nb ≤ i + 1
    · rw [if_pos (Or.inr c0), c_givenAt_hi _ t ht (i + 1) nb _ M (r1.trans hW.1) hn c0 (by omega)]
      rfl
    · rw [if_neg (by omega)]
      have hq : i + 1 < nb := by omega
      obtain ⟨hb, e⟩ := WS_row hW hq
      rw [c_givenAt _ t ht (i + 1) _ nb _ M (r1.trans hW.1) hn hq ((r4 _ hq).trans e) (by omega), (r3 _ hb).2.2.1, r5 _ hq]
      rfl
theorem c_night_t (d t k b m v w : Nat) (ht : t = 9 ∨ t = 23) (hb : b < 6) (hk : k ≤ 6) (hm : m ≤ 9) (hv : v ≤ 99) (hw : w ≤ 99) (M : am_M) (h1 : M (t + 1) b = nI k) (h2 : M (t + 2) b = nI m) (x2 x3 x4 x5 x8 x9 : Int32) (w10 w11 : Value) : am_lim (am_call (d + 3)) (am_R i8_passNight) (am_tx i8_passNight) 157 [.ref t, .ref 30, .int x2, .int x3, .int x4, .int x5, .int (nI b), .int (nI v), .int x8, .int x9, w10, w11] [.int (nI w)] M = am_lim (am_call (d + 3)) (am_R i8_passNight) (am_tx i8_passNight) 183 [.ref t, .ref 30, .int x2, .int x3, .int x4, .int x5, .int (nI b), .int (nI v), .int x8, .int x9, .int (nI w), w11] [.int (tk (nI k) (nI m) (nI v) (nI w) (M t 8))] M := by
  have hK := c_kindOf (d + 2) t ht b k M hb hk h1
  rcases k_cases hk with rfl | rfl | rfl | rfl | rfl | rfl | rfl
  · rw [sg8_passNight_k2_157 _ t ht, hK]
    simp only [Option.bind_some, Option.toList_some, Option.toList_none, List.cons_append, List.nil_append, bi_eq0, bi_eq1, bi_nem, if_true, if_false, ite_not, Classical.not_not, sg8_passNight_k2_165 _ t ht]
    simp (disch := omega) only [false_or, nle9, nI_dec9, nI_add, pk_mul, pk_sub, nI_clamp, nI_in9, nI_pos9, nI_lt9, nI_le9, nI_eq9, nI_eq09, nI_le09, am_k_m1, if_true, if_false, ite_not, Classical.not_not]
    rw [h2, ct_0 (d + 1) m v w (M t 8) M hm hv hw]
    rfl
  · rw [sg8_passNight_k3_157 _ t ht, hK]
    simp only [Option.bind_some, Option.toList_some, Option.toList_none, List.cons_append, List.nil_append, bi_eq0, bi_eq1, bi_nem, if_true, if_false, ite_not, Classical.not_not, sg8_passNight_k3_165 _ t ht]
    simp (disch := omega) only [false_or, nle9, nI_dec9, nI_add, pk_mul, pk_sub, nI_clamp, nI_in9, nI_pos9, nI_lt9, nI_le9, nI_eq9, nI_eq09, nI_le09, am_k_m1, if_true, if_false, ite_not, Classical.not_not]
    rw [h2, ct_1 (d + 1) m v w (M t 8) M hm hv hw]
    rfl
  · rw [sg8_passNight_k4_157 _ t ht, hK]
    simp only [Option.bind_some, Option.toList_some, Option.toList_none, List.cons_append, List.nil_append, bi_eq0, bi_eq1, bi_nem, if_true, if_false, ite_not, Classical.not_not, sg8_passNight_k4_165 _ t ht]
    simp (disch := omega) only [false_or, nle9, nI_dec9, nI_add, pk_mul, pk_sub, nI_clamp, nI_in9, nI_pos9, nI_lt9, nI_le9, nI_eq9, nI_eq09, nI_le09, am_k_m1, if_true, if_false, ite_not, Classical.not_not]
    rw [h2, ct_2 (d + 1) m v w (M t 8) M hm hv hw]
    rfl
  · rw [sg8_passNight_k5_157 _ t ht, hK]
    simp only [Option.bind_some, Option.toList_some, Option.toList_none, List.cons_append, List.nil_append, bi_eq0, bi_eq1, bi_nem, if_true, if_false, ite_not, Classical.not_not, sg8_passNight_k5_165 _ t ht]
    simp (disch := omega) only [false_or, nle9, nI_dec9, nI_add, pk_mul, pk_sub, nI_clamp, nI_in9, nI_pos9, nI_lt9, nI_le9, nI_eq9, nI_eq09, nI_le09, am_k_m1, if_true, if_false, ite_not, Classical.not_not]
    rw [h2, ct_3 (d + 1) m v w (M t 8) M hm hv hw]
    rfl
  · rw [sg8_passNight_k6_157 _ t ht, hK]
    simp only [Option.bind_some, Option.toList_some, Option.toList_none, List.cons_append, List.nil_append, bi_eq0, bi_eq1, bi_nem, if_true, if_false, ite_not, Classical.not_not, sg8_passNight_k6_165 _ t ht]
    simp (disch := omega) only [false_or, nle9, nI_dec9, nI_add, pk_mul, pk_sub, nI_clamp, nI_in9, nI_pos9, nI_lt9, nI_le9, nI_eq9, nI_eq09, nI_le09, am_k_m1, if_true, if_false, ite_not, Classical.not_not]
    rw [h2, ct_4 (d + 1) m v w (M t 8) M hm hv hw]
    rfl
  · rw [sg8_passNight_k7_157 _ t ht, hK]
    simp only [Option.bind_some, Option.toList_some, Option.toList_none, List.cons_append, List.nil_append, bi_eq0, bi_eq1, bi_nem, if_true, if_false, ite_not, Classical.not_not, sg8_passNight_k7_165 _ t ht]
    simp (disch := omega) only [false_or, nle9, nI_dec9, nI_add, pk_mul, pk_sub, nI_clamp, nI_in9, nI_pos9, nI_lt9, nI_le9, nI_eq9, nI_eq09, nI_le09, am_k_m1, if_true, if_false, ite_not, Classical.not_not]
    rw [h2, ct_5 (d + 1) m v w (M t 8) M hm hv hw]
    rfl
  · rw [sg8_passNight_k8_157 _ t ht, hK]
    simp only [Option.bind_some, Option.toList_some, Option.toList_none, List.cons_append, List.nil_append, bi_eq0, bi_eq1, bi_nem, if_true, if_false, ite_not, Classical.not_not, sg8_passNight_k8_165 _ t ht]
    simp (disch := omega) only [false_or, nle9, nI_dec9, nI_add, pk_mul, pk_sub, nI_clamp, nI_in9, nI_pos9, nI_lt9, nI_le9, nI_eq9, nI_eq09, nI_le09, am_k_m1, if_true, if_false, ite_not, Classical.not_not]
    rw [h2, ct_6 (d + 1) m v w (M t 8) M hm hv hw]
    rfl
theorem c_night_b (d t nb ng pg pn : Nat) (ht : t = 9 ∨ t = 23) (S : Nat → Int32) (hW : WS S nb ng) (hp : pg < 6) (hpn : pn ≤ 6) : ∀ (k i : Nat) (M : am_M) (w6 w7 w8 w9 w10 w11 : Value), i + k = nb → NI2 M t S nb pg pn i → ∃ M', am_lim (am_call (d + 3)) (am_R i8_passNight) (am_tx i8_passNight) 62 [.ref t, .ref 30, .int (nI pn), .int (nI pg), .int (cb (chB S nb pg pn i)), .int (nI i), w6, w7, w8, w9, w10, w11] [] M = some (some (.int (cb (chB S nb pg pn nb))), M') ∧ RS M' t (ntS S nb pg pn) nb ∧ Ch [t, t + 4, 35] M M'
  | 0, i, M, w6, w7, w8, w9, w10, w11, h, hN => by
    have : i = nb := by omega
    subst this
    have hn := hW.2.1
    rw [sg8_passNight_k2_62 _ t ht, hN.1, hW.1]
    simp (disch := omega) only [false_or, nle9, nI_dec9, nI_add, pk_mul, pk_sub, nI_clamp, nI_in9, nI_pos9, nI_lt9, nI_le9, nI_eq9, nI_eq09, nI_le09, am_k_m1, if_true, if_false, ite_not, Classical.not_not]
    rw [if_neg (by omega), if_pos (cb_01 _)]
    exact ⟨_, rfl, NI2_end ht hW hp hN, Ch_up (by simp)⟩
  | k + 1, i, M, w6, w7, w8, w9, w10, w11, h, hN => by
    have hn := hW.2.1
    have hi : i < nb := by omega
    obtain ⟨hb, e⟩ := WS_row hW hi
    have hN0 := hN
    obtain ⟨r1, r2, r3, r4, r5, r6, r7⟩ := hN
    obtain ⟨⟨k', k1, k2⟩, ⟨m, m1, m2⟩, -, -⟩ := hW.2.2.2.1 _ hb
    obtain ⟨v, v1, v2⟩ := oA_r hW hp hi
    rw [sg8_passNight_k2_62 _ t ht, r1, hW.1]
    simp (disch := omega) only [false_or, nle9, nI_dec9, nI_add, pk_mul, pk_sub, nI_clamp, nI_in9, nI_pos9, nI_lt9, nI_le9, nI_eq9, nI_eq09, nI_le09, am_k_m1, if_true, if_false, ite_not, Classical.not_not]
    rw [if_pos hi, r4 i hi, e]
    simp (disch := omega) only [false_or, nle9, nI_dec9, nI_add, pk_mul, pk_sub, nI_clamp, nI_in9, nI_pos9, nI_lt9, nI_le9, nI_eq9, nI_eq09, nI_le09, am_k_m1, if_true, if_false, ite_not, Classical.not_not]
    rw [(r3 _ hb).2.2.1]
    have hch : chB S nb pg pn (i + 1) = (chB S nb pg pn i || !(decide (nvA S nb pg pn i = oA S pg i))) := rfl
    by_cases hg : S (2 + 9 * bk S i + 2) = 0
    · rw [if_pos hg, c_said _ t ht _ pg M (by omega), (r3 _ hb).2.2.2 pg hp, ntF_i hW hi]
      simp only [Option.bind_some, Option.toList_some, Option.toList_none, List.cons_append, List.nil_append, bi_eq0, bi_eq1, bi_nem, if_true, if_false, ite_not, Classical.not_not]
      rw [c_night_l d t nb ng pg pn i ht S hW hp hpn hi M hN0, c_night_r d t nb ng pg pn i ht S hW hp hpn hi M hN0, sg8_passNight_k2_145 _ t ht]
      obtain ⟨M1, a1, a2⟩ := c_merged d M S (oA S pg i) (lA S pg pn i) (rA S nb pg pn i) r6
      obtain ⟨w, w1, w2⟩ := mgS_r S (oA S pg i) (lA S pg pn i) (rA S nb pg pn i)
      have hnv : nvA S nb pg pn i = tk (nI k') (nI m) (nI v) (nI w) (S 0) := by
        unfold nvA
        rw [if_pos hg, w2, k2, m2, v2]
      rw [a1, w2, v2]
      simp only [Option.bind_some, Option.toList_some, Option.toList_none, List.cons_append, List.nil_append, bi_eq0, bi_eq1, bi_nem, if_true, if_false, ite_not, Classical.not_not]
      rw [c_night_t d t k' (bk S i) m v w ht (by omega) k1 m1 v1 w1 M1 (by rw [a2 _ (by omega), (r3 _ hb).1, k2]) (by rw [a2 _ (by omega), (r3 _ hb).2.1, m2]), a2 t (by omega), r2, ← hnv, ← v2, sg8_passNight_k2_183 _ t ht]
      simp (disch := omega) only [false_or, nle9, nI_dec9, nI_add, pk_mul, pk_sub, nI_clamp, nI_in9, nI_pos9, nI_lt9, nI_le9, nI_eq9, nI_eq09, nI_le09, am_k_m1, if_true, if_false, ite_not, Classical.not_not]
      have hN1 := NI2_up ht hW hp hi (NI2_ch ht hN0 a2)
      have go := c_night_b d t nb ng pg pn ht S hW hp hpn k (i + 1) _ (.int (nI (bk S i))) (.int (oA S pg i)) (.int (lA S pg pn i)) (.int (rA S nb pg pn i)) (.int (nI w)) (.int (nvA S nb pg pn i)) (by omega) hN1
      obtain ⟨M2, b1, b2, b3⟩ := go
      refine ⟨M2, ?_, b2, Ch_tr (Ch_tr (Ch_mo (Ch_1 a2) (by simp)) (Ch_up (by simp))) b3⟩
      rw [← b1, hch]
      cases hc : chB S nb pg pn i with
      | true => rw [if_neg (by decide +kernel)]; rfl
      | false =>
        rw [if_pos (by decide +kernel)]
        by_cases c : nvA S nb pg pn i = oA S pg i
        · rw [if_pos c, decide_eq_true c]; rfl
        · rw [if_neg c, decide_eq_false c]; rfl
    · have hnv : nvA S nb pg pn i = oA S pg i := by unfold nvA; rw [if_neg hg]
      rw [if_neg hg]
      obtain ⟨M2, b1, b2, b3⟩ := c_night_b d t nb ng pg pn ht S hW hp hpn k (i + 1) M (.int (nI (bk S i))) w7 w8 w9 w10 w11 (by omega) (NI2_gl hW hi hnv hN0)
      refine ⟨M2, ?_, b2, b3⟩
      rw [hch, decide_eq_true hnv] at b1
      simp only [Bool.not_true, Bool.or_false] at b1
      exact b1
theorem c_passNight (d t nb ng pn : Nat) (ht : t = 9 ∨ t = 23) (S : Nat → Int32) (hW : WS S nb ng) (hg : ng < 2147483648) (hpn : pn ≤ 6) (M : am_M) (hR : RS M t S nb) (hT : TR (M 33) (M 34) S 0) : ∃ M', am_call (d + 4) i8_passNight [.ref t, .ref 30, .int (nI pn)] M = some (some (.int (cb (chB S nb (ng % 6) pn nb))), M') ∧ RS M' t (ntS S nb (ng % 6) pn) nb ∧ Ch [t, t + 4, t + 6, 35] M M' := by
  have hp : ng % 6 < 6 := Nat.mod_lt _ (by omega)
  rw [ec8_passNight_k2 _ t ht, hR.2.1, hW.2.2.1, pk_rem (by omega) (by omega) (by omega)]
  obtain ⟨M1, a1, a2, a3⟩ := c_night_a d t nb ng (ng % 6) (nI pn) ht S hW hp nb 0 M (by omega) hR (fun q hq => by omega)
  rw [a1]
  have a4 : ∀ a, a ≠ t + 6 → M1 a = M a := fun a ha => a2 a (by simp [ha])
  have hR1 : RS M1 t S nb := RS_ch hR (by refine ⟨?_, ?_, ?_, ?_, ?_, ?_⟩ <;> exact a4 _ (by omega))
  obtain ⟨M2, b1, b2, b3⟩ := c_night_b d t nb ng (ng % 6) pn ht S hW hp hpn nb 0 M1 .null .null .null .null .null .null (by omega) ⟨hR1.1, hR1.2.1, hR1.2.2.1, hR1.2.2.2.1, a3, by rw [a4 33 (by omega), a4 34 (by omega)]; exact hT, hR1.2.2.2.2⟩
  exact ⟨M2, b1, b2, Ch_tr (Ch_mo a2 (by simp)) (Ch_mo b3 (by simp))⟩
