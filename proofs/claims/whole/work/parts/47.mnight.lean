/-! the reference's night -/
def saV (S : Nat → Int32) (nb pg pn : Nat) (F : Nat → Int32) (k : Nat) : Prop := ∀ q, q < k → F (bk S q) = nvA S nb pg pn q
/-- nothing changed but what a night of the reference uses -/
def J6 (L : List Nat) (M M' : am_M) : Prop := (∀ a, a ∉ L → a ≠ 68 → M' a = M a) ∧ ∀ j, (j < 5 ∨ 13 < j) → M' 68 j = M 68 j
theorem J6_rf {L : List Nat} {M : am_M} : J6 L M M := ⟨fun _ _ _ => Eq.refl _, fun _ _ => Eq.refl _⟩
theorem J6_tr {L : List Nat} {M M1 M2 : am_M} (h : J6 L M M1) (h2 : J6 L M1 M2) : J6 L M M2 := ⟨fun a ha hb => (h2.1 a ha hb).trans (h.1 a ha hb), fun j hj => (h2.2 j hj).trans (h.2 j hj)⟩
theorem J6_mo {L L' : List Nat} {M M' : am_M} (h : J6 L M M') (hs : ∀ a ∈ L, a ∈ L') : J6 L' M M' := ⟨fun a ha hb => h.1 a (fun q => ha (hs a q)) hb, h.2⟩
theorem J6_J {L : List Nat} {M M' : am_M} (h : J68 M M') : J6 L M M' := ⟨fun a _ hb => h.1 a hb, h.2⟩
theorem J6_up {L : List Nat} {a i : Nat} {x : Int32} {M : am_M} (h : a ∈ L) (h68 : a ≠ 68) : J6 L M (am_up M a i x) := ⟨fun b hb _ => au_b (fun q => hb (q ▸ h)), fun j _ => by rw [au_b (Ne.symm h68)]⟩
theorem J6_sc {L : List Nat} {a : Nat} {f : Nat → Int32} {M : am_M} (h : a ∈ L) (h68 : a ≠ 68) : J6 L M (am_setc M a f) := ⟨fun b hb _ => stc_ne (fun q => hb (q ▸ h)), fun j _ => by rw [stc_ne (Ne.symm h68)]⟩
theorem m_given (d q pg nb ng : Nat) (o : Int32) (M : am_M) (hW : WS (M 69) nb ng) (hp : pg < 6) (hq : q < nb) : am_call (d + 4) i12_given [.ref 68, .int (nI q), .int (nI pg), .int o] M = some (some (.int (gvA (M 69) pg q o)), M) := by
  have hn := hW.2.1
  obtain ⟨hb, e⟩ := WS_row hW hq
  obtain ⟨a1, a2, a3, a4⟩ := hW.2.2.2.1 _ hb
  rw [ec12_given, show d + 3 = d + 2 + 1 from rfl, m_in]
  simp only [Option.bind_some, Option.toList_some, Option.toList_none, List.cons_append, List.nil_append, bi_eq0, bi_eq1, bi_nem, if_true, if_false, ite_not, Classical.not_not, sg12_given_15]
  rw [hW.1]
  have hc : (lN 0).toInt ≤ (nI q).toInt64.toInt ∧ (nI q).toInt64.toInt ≤ (nI nb - nI 1).toInt64.toInt := by
    rw [Int32.toInt_toInt64, Int32.toInt_toInt64, lN_toInt (by omega), pk_sub_toInt (by omega) (by omega), nI_toInt (by omega)]
    omega
  rw [if_pos hc]
  simp (disch := omega) only [false_or, nle9, nI_dec9, nI_add, pk_mul, pk_sub, nI_clamp, nI_in9, nI_pos9, nI_lt9, nI_le9, nI_eq9, nI_eq09, nI_le09, am_k_m1, if_true, if_false, ite_not, Classical.not_not]
  rw [e]
  simp (disch := omega) only [false_or, nle9, nI_dec9, nI_add, pk_mul, pk_sub, nI_clamp, nI_in9, nI_pos9, nI_lt9, nI_le9, nI_eq9, nI_eq09, nI_le09, am_k_m1, if_true, if_false, ite_not, Classical.not_not]
  rw [show d + 2 + 1 = d + 1 + 2 from rfl, m_its _ _ 2 M (by omega)]
  simp only [Option.bind_some, Option.toList_some, Option.toList_none, List.cons_append, List.nil_append, bi_eq0, bi_eq1, bi_nem, if_true, if_false, ite_not, Classical.not_not, sg12_given_45]
  unfold gvA
  rcases a3 with h0 | h0
  · rw [h0, if_neg (by decide +kernel), if_pos nI_0, m_pageAt _ _ pg M (by omega)]
    simp only [Option.bind_some, Option.toList_some, Option.toList_none, List.cons_append, List.nil_append, bi_eq0, bi_eq1, bi_nem, if_true, if_false, ite_not, Classical.not_not, sg12_given_63]
    rw [m_gives d _ _ M (by omega)]
    simp only [Option.bind_some, Option.toList_some, Option.toList_none, List.cons_append, List.nil_append, bi_eq0, bi_eq1, bi_nem, if_true, if_false, ite_not, Classical.not_not, sg12_given_66]
    rfl
  · rw [h0, if_pos rfl, if_neg (by decide +kernel)]
    simp only [sg12_given_66]
theorem m_given_hi (d q pg nb ng : Nat) (o : Int32) (M : am_M) (hW : WS (M 69) nb ng) (hq : nb ≤ q) (hq2 : q ≤ 6) : am_call (d + 4) i12_given [.ref 68, .int (nI q), .int (nI pg), .int o] M = some (some (.int o), M) := by
  have hn := hW.2.1
  rw [ec12_given, show d + 3 = d + 2 + 1 from rfl, m_in]
  simp only [Option.bind_some, Option.toList_some, Option.toList_none, List.cons_append, List.nil_append, bi_eq0, bi_eq1, bi_nem, if_true, if_false, ite_not, Classical.not_not, sg12_given_15]
  rw [hW.1]
  rw [if_neg (by
    rintro ⟨-, h2⟩
    rw [Int32.toInt_toInt64, Int32.toInt_toInt64, pk_sub_toInt (by omega) (by omega), nI_toInt (by omega)] at h2
    omega)]
  simp only [sg12_given_66]
theorem m_given_lo (d pg nb ng : Nat) (o : Int32) (M : am_M) (hW : WS (M 69) nb ng) : am_call (d + 4) i12_given [.ref 68, .int (nI 0 - nI 1), .int (nI pg), .int o] M = some (some (.int o), M) := by
  rw [ec12_given, show d + 3 = d + 2 + 1 from rfl, m_in]
  simp only [Option.bind_some, Option.toList_some, Option.toList_none, List.cons_append, List.nil_append, bi_eq0, bi_eq1, bi_nem, if_true, if_false, ite_not, Classical.not_not, sg12_given_15]
  rw [if_neg (by
    rintro ⟨h1, -⟩
    rw [Int32.toInt_toInt64, pk_sub_toInt (by omega) (by omega), lN_toInt (by omega)] at h1
    omega)]
  simp only [sg12_given_66]
/-- the pane, as the reference takes it -/
def pnM (pn : Nat) : Int32 := if pn = 0 then -1 else nI (pn - 1)
theorem pnM_0 : pnM 0 = -1 := rfl
theorem pnM_s (p : Nat) : pnM (p + 1) = nI p := by
  unfold pnM
  rw [if_neg (by omega), Nat.add_sub_cancel]
theorem m_night_l (d i pg pn nb ng : Nat) (M : am_M) (hW : WS (M 69) nb ng) (hp : pg < 6) (hpn : pn ≤ 6) (hi : i < nb) (x4 : Int32) (w5 w6 w7 : Value) : am_lim (am_call (d + 41)) (am_R i12_night) (am_tx i12_night) 40 [.ref 68, .int (pnM pn), .int (nI pg), .int (nI i), .int x4, w5, w6, w7] [.int (oA (M 69) pg i)] M = am_lim (am_call (d + 41)) (am_R i12_night) (am_tx i12_night) 68 [.ref 68, .int (pnM pn), .int (nI pg), .int (nI i), .int x4, .int (oA (M 69) pg i), w6, w7] [.int (lA (M 69) pg pn i)] M := by
  have hn := hW.2.1
  have hg : (am_call (d + 41) i12_given [.ref 68, .int (nI i - nI 1), .int (nI pg), .int (oA (M 69) pg i)] M) = some (some (.int (if i = 0 then oA (M 69) pg i else gvA (M 69) pg (i - 1) (oA (M 69) pg i))), M) := by
    rw [show d + 41 = d + 37 + 4 from rfl]
    by_cases c0 : i = 0
    · subst c0
      rw [m_given_lo _ pg nb ng _ M hW, if_pos rfl]
    · rw [if_neg c0, pk_sub (by omega), m_given _ (i - 1) pg nb ng _ M hW hp (by omega)]
  rw [sg12_night_40, hg]
  simp only [Option.bind_some, Option.toList_some, Option.toList_none, List.cons_append, List.nil_append, bi_eq0, bi_eq1, bi_nem, if_true, if_false, ite_not, Classical.not_not]
  unfold lA
  cases pn with
  | zero =>
    rw [pnM_0, if_pos (by decide +kernel)]
    by_cases c0 : i = 0
    · rw [if_pos c0, if_pos (Or.inl c0)]
    · rw [if_neg c0, if_neg (by omega)]
  | succ p =>
    rw [pnM_s]
    simp (disch := omega) only [false_or, nle9, nI_dec9, nI_add, pk_mul, pk_sub, nI_clamp, nI_in9, nI_pos9, nI_lt9, nI_le9, nI_eq9, nI_eq09, nI_le09, am_k_m1, if_true, if_false, ite_not, Classical.not_not]
    by_cases c : i = p + 1
    · rw [if_pos c, if_pos (Or.inr c)]
    · rw [if_neg c]
      by_cases c0 : i = 0
      · rw [if_pos c0, if_pos (Or.inl c0)]
      · rw [if_neg c0, if_neg (by omega)]
theorem m_night_r (d i pg pn nb ng : Nat) (M : am_M) (hW : WS (M 69) nb ng) (hp : pg < 6) (hpn : pn ≤ 6) (hi : i < nb) (x4 l : Int32) (w6 w7 : Value) : am_lim (am_call (d + 41)) (am_R i12_night) (am_tx i12_night) 68 [.ref 68, .int (pnM pn), .int (nI pg), .int (nI i), .int x4, .int (oA (M 69) pg i), w6, w7] [.int l] M = am_lim (am_call (d + 41)) (am_R i12_night) (am_tx i12_night) 94 [.ref 68, .int (pnM pn), .int (nI pg), .int (nI i), .int x4, .int (oA (M 69) pg i), .int l, w7] [.int (rA (M 69) nb pg pn i)] M := by
  have hn := hW.2.1
  have hg : (am_call (d + 41) i12_given [.ref 68, .int (nI i + nI 1), .int (nI pg), .int (oA (M 69) pg i)] M) = some (some (.int (if nb ≤ i + 1 then oA (M 69) pg i else gvA (M 69) pg (i + 1) (oA (M 69) pg i))), M) := by
    rw [show d + 41 = d + 37 + 4 from rfl, nI_add]
    by_cases c0 : nb ≤ i + 1
    · rw [if_pos c0, m_given_hi _ (i + 1) pg nb ng _ M hW c0 (by omega)]
    · rw [if_neg c0, m_given _ (i + 1) pg nb ng _ M hW hp (by omega)]
  rw [sg12_night_68, hg]
  simp only [Option.bind_some, Option.toList_some, Option.toList_none, List.cons_append, List.nil_append, bi_eq0, bi_eq1, bi_nem, if_true, if_false, ite_not, Classical.not_not]
  unfold rA
  cases pn with
  | zero =>
    rw [pnM_0, if_pos (by decide +kernel)]
    by_cases c0 : nb ≤ i + 1
    · rw [if_pos c0, if_pos (Or.inr c0)]
    · rw [if_neg c0, if_neg (by omega)]
  | succ p =>
    rw [pnM_s]
    simp (disch := omega) only [false_or, nle9, nI_dec9, nI_add, pk_mul, pk_sub, nI_clamp, nI_in9, nI_pos9, nI_lt9, nI_le9, nI_eq9, nI_eq09, nI_le09, am_k_m1, if_true, if_false, ite_not, Classical.not_not]
    by_cases c : i = p
    · rw [if_pos c, if_pos (by omega)]
    · rw [if_neg c]
      by_cases c0 : nb ≤ i + 1
      · rw [if_pos c0, if_pos (Or.inr c0)]
      · rw [if_neg c0, if_neg (by omega)]
theorem m_night_a (d nb ng pg pn : Nat) (S : Nat → Int32) (hW : WS S nb ng) (hp : pg < 6) (hpn : pn ≤ 6) (hK : txK S 0) : ∀ (k i : Nat) (M : am_M) (w4 w5 w6 w7 : Value), i + k = nb → M 69 = S → saV S nb pg pn (M 73) i → ∃ M' v4 v5 v6 v7, am_lim (am_call (d + 41)) (am_R i12_night) (am_tx i12_night) 12 [.ref 68, .int (pnM pn), .int (nI pg), .int (nI i), w4, w5, w6, w7] [] M = am_lim (am_call (d + 41)) (am_R i12_night) (am_tx i12_night) 145 [.ref 68, .int (pnM pn), .int (nI pg), .int (nI 0), v4, v5, v6, v7] [] M' ∧ M' 69 = S ∧ saV S nb pg pn (M' 73) nb ∧ J6 [73] M M'
  | 0, i, M, w4, w5, w6, w7, h, hM, hs => by
    have : i = nb := by omega
    subst this
    have hn := hW.2.1
    refine ⟨M, w4, w5, w6, w7, ?_, hM, hs, J6_rf⟩
    rw [sg12_night_12, hM, hW.1]
    simp (disch := omega) only [false_or, nle9, nI_dec9, nI_add, pk_mul, pk_sub, nI_clamp, nI_in9, nI_pos9, nI_lt9, nI_le9, nI_eq9, nI_eq09, nI_le09, am_k_m1, if_true, if_false, ite_not, Classical.not_not]
    rw [if_neg (by omega)]
  | k + 1, i, M, w4, w5, w6, w7, h, hM, hs => by
    have hn := hW.2.1
    have hi : i < nb := by omega
    obtain ⟨hb, e⟩ := WS_row hW hi
    obtain ⟨a1, a2, a3, a4⟩ := hW.2.2.2.1 _ hb
    have hWM : WS (M 69) nb ng := hM ▸ hW
    have fin : ∀ (M1 : am_M) (x7 : Int32), M1 69 = S → M1 73 = M 73 → J68 M M1 → ∃ M' v4 v5 v6 v7, am_lim (am_call (d + 41)) (am_R i12_night) (am_tx i12_night) 136 [.ref 68, .int (pnM pn), .int (nI pg), .int (nI i), .int (nI (bk S i)), .int (oA S pg i), .int (lA S pg pn i), .int x7] [.int (nvA S nb pg pn i), .int (nI (bk S i)), .ref 73] M1 = am_lim (am_call (d + 41)) (am_R i12_night) (am_tx i12_night) 145 [.ref 68, .int (pnM pn), .int (nI pg), .int (nI 0), v4, v5, v6, v7] [] M' ∧ M' 69 = S ∧ saV S nb pg pn (M' 73) nb ∧ J6 [73] M M' := by
      intro M1 x7 h69 h73 hJ
      obtain ⟨M2, u4, u5, u6, u7, b1, b2, b3, b4⟩ := m_night_a d nb ng pg pn S hW hp hpn hK k (i + 1) (am_up M1 73 (bk S i) (nvA S nb pg pn i)) (.int (nI (bk S i))) (.int (oA S pg i)) (.int (lA S pg pn i)) (.int x7) (by omega) (by rw [au_b (by decide)]; exact h69) (fun q hq => by
        by_cases c : q = i
        · subst c; exact au_s
        · rw [au_j (fun z => c (WS_inj hW (by omega) hi z)), h73]
          exact hs q (by omega))
      refine ⟨M2, u4, u5, u6, u7, ?_, b2, b3, J6_tr (J6_tr (J6_J hJ) (J6_up (by simp) (by decide))) b4⟩
      rw [sg12_night_136]
      simp (disch := omega) only [false_or, nle9, nI_dec9, nI_add, pk_mul, pk_sub, nI_clamp, nI_in9, nI_pos9, nI_lt9, nI_le9, nI_eq9, nI_eq09, nI_le09, am_k_m1, if_true, if_false, ite_not, Classical.not_not]
      exact b1
    rw [sg12_night_12, hM, hW.1]
    simp (disch := omega) only [false_or, nle9, nI_dec9, nI_add, pk_mul, pk_sub, nI_clamp, nI_in9, nI_pos9, nI_lt9, nI_le9, nI_eq9, nI_eq09, nI_le09, am_k_m1, if_true, if_false, ite_not, Classical.not_not]
    rw [if_pos hi, e, show d + 41 = d + 39 + 2 from rfl, m_pageAt _ _ pg M (by omega), hM]
    simp only [Option.bind_some, Option.toList_some, Option.toList_none, List.cons_append, List.nil_append, bi_eq0, bi_eq1, bi_nem, if_true, if_false, ite_not, Classical.not_not]
    have hl := m_night_l d i pg pn nb ng M hWM hp hpn hi (nI (bk S i)) w5 w6 w7
    have hr := m_night_r d i pg pn nb ng M hWM hp hpn hi (nI (bk S i)) (lA S pg pn i) w6 w7
    rw [hM] at hl hr
    rw [show d + 39 + 2 = d + 41 from rfl]
    change ∃ (M' : am_M) (v4' v5' v6' v7' : Value), am_lim (am_call (d + 41)) (am_R i12_night) (am_tx i12_night) 40 [.ref 68, .int (pnM pn), .int (nI pg), .int (nI i), .int (nI (bk S i)), w5, w6, w7] [.int (oA S pg i)] M = _ ∧ _
    rw [hl, hr, sg12_night_94, show d + 41 = d + 39 + 2 from rfl, m_its _ _ 2 M (by omega), hM]
    simp only [Option.bind_some, Option.toList_some, Option.toList_none, List.cons_append, List.nil_append, bi_eq0, bi_eq1, bi_nem, if_true, if_false, ite_not, Classical.not_not, sg12_night_109]
    rcases a3 with h0 | h0
    · rw [h0, if_neg (by decide +kernel)]
      obtain ⟨M1, c1, c2⟩ := m_merged d M (oA S pg i) (lA S pg pn i) (rA S nb pg pn i) (hM ▸ hK)
      rw [show d + 39 + 2 = d + 41 from rfl, c1, hM]
      simp only [Option.bind_some, Option.toList_some, Option.toList_none, List.cons_append, List.nil_append, bi_eq0, bi_eq1, bi_nem, if_true, if_false, ite_not, Classical.not_not, sg12_night_133]
      rw [show d + 41 = d + 38 + 3 from rfl, m_takes0 _ _ _ _ M1 (by omega), J68_69 c2, hM]
      simp only [Option.bind_some, Option.toList_some, Option.toList_none, List.cons_append, List.nil_append, bi_eq0, bi_eq1, bi_nem, if_true, if_false, ite_not, Classical.not_not]
      have hnv : nvA S nb pg pn i = tk (S (2 + 9 * bk S i)) (S (2 + 9 * bk S i + 1)) (oA S pg i) (mgS S (oA S pg i) (lA S pg pn i) (rA S nb pg pn i)) (S 0) := by
        unfold nvA
        rw [if_pos (by rw [h0]; exact nI_0)]
      rw [← hnv]
      exact fin M1 _ ((J68_69 c2).trans hM) (c2.1 73 (by decide)) c2
    · rw [h0, if_pos rfl]
      have hnv : nvA S nb pg pn i = oA S pg i := by
        unfold nvA
        rw [if_neg (by rw [h0]; decide +kernel)]
      have := fin M (rA S nb pg pn i) hM rfl J68_rf
      rw [hnv] at this
      exact this
def ntG (S : Nat → Int32) (pg : Nat) (F : Nat → Int32) : Nat → Nat → Int32
  | 0 => S
  | k + 1 => upd (ntG S pg F k) (2 + 9 * k + (3 + pg)) (F k)
theorem ntG_in {S : Nat → Int32} {pg b : Nat} {F : Nat → Int32} : ∀ k, b < k → ntG S pg F k (2 + 9 * b + (3 + pg)) = F b
  | k + 1, h => by
    show upd _ _ _ _ = _
    by_cases c : b = k
    · subst c; rw [upd_eq]
    · rw [upd_ne (by omega)]
      exact ntG_in k (by omega)
theorem ntG_out {S : Nat → Int32} {pg j : Nat} {F : Nat → Int32} : ∀ k, (∀ b, b < k → j ≠ 2 + 9 * b + (3 + pg)) → ntG S pg F k j = S j
  | 0, _ => rfl
  | k + 1, h => by
    show upd _ _ _ _ = _
    rw [upd_ne (h k (by omega))]
    exact ntG_out k (fun b hb => h b (by omega))
theorem ntF_in {S : Nat → Int32} {nb ng pg pn q : Nat} (hW : WS S nb ng) (hq : q < nb) : ∀ k, q < k → k ≤ nb → ntF S nb pg pn k (2 + 9 * bk S q + (3 + pg)) = nvA S nb pg pn q
  | k + 1, h, hk => by
    show upd _ _ _ _ = _
    by_cases c : q = k
    · subst c; rw [upd_eq]
    · rw [upd_ne (fun e => c (WS_inj hW hq (by omega) (by omega)))]
      exact ntF_in hW hq k (by omega) (by omega)
/-- both ways to write a night down are one -/
theorem ntG_F {S : Nat → Int32} {nb ng pg pn : Nat} {F : Nat → Int32} (hW : WS S nb ng) (hp : pg < 6) (hF : saV S nb pg pn F nb) : ntG S pg F nb = ntF S nb pg pn nb := by
  funext j
  by_cases c : ∃ b, b < nb ∧ j = 2 + 9 * b + (3 + pg)
  · obtain ⟨b, hb, rfl⟩ := c
    obtain ⟨q, hq, e⟩ := hW.2.2.2.2.2.1 b hb
    have e2 : bk S q = b := bk_eq e (by have := hW.2.1; omega)
    rw [ntG_in nb hb, ← e2, hF q hq, ntF_in hW hq nb hq (Nat.le_refl _)]
  · rw [ntG_out nb (fun b hb e => c ⟨b, hb, e⟩), ntF_o nb (fun q hq e => c ⟨bk S q, (WS_row hW hq).1, e⟩)]
theorem m_night_b (d nb ng pg : Nat) (x1 : Int32) (S : Nat → Int32) (F : Nat → Int32) (hW : WS S nb ng) (hp : pg < 6) : ∀ (k i : Nat) (M : am_M) (w4 w5 w6 w7 : Value), i + k = nb → M 69 = ntG S pg F i → M 73 = F → ∃ M', am_lim (am_call (d + 41)) (am_R i12_night) (am_tx i12_night) 145 [.ref 68, .int x1, .int (nI pg), .int (nI i), w4, w5, w6, w7] [] M = some (none, M') ∧ M' 69 = upd (ntG S pg F nb) 0 (S 0 + nI 1) ∧ M' 73 = F ∧ J6 [69] M M'
  | 0, i, M, w4, w5, w6, w7, h, hM, hF => by
    have : i = nb := by omega
    subst this
    have hn := hW.2.1
    have e1 : M 69 1 = nI i := by rw [hM, ntG_out i (fun b hb => by omega)]; exact hW.1
    have e0 : M 69 0 = S 0 := by rw [hM, ntG_out i (fun b hb => by omega)]
    refine ⟨am_up M 69 0 (S 0 + nI 1), ?_, ?_, by rw [au_b (by decide)]; exact hF, J6_up (by simp) (by decide)⟩
    · rw [sg12_night_145, e1]
      simp (disch := omega) only [false_or, nle9, nI_dec9, nI_add, pk_mul, pk_sub, nI_clamp, nI_in9, nI_pos9, nI_lt9, nI_le9, nI_eq9, nI_eq09, nI_le09, am_k_m1, if_true, if_false, ite_not, Classical.not_not]
      rw [if_neg (by omega), e0]
    · show am_setc M 69 _ 69 = _
      rw [stc_eq, hM]
  | k + 1, i, M, w4, w5, w6, w7, h, hM, hF => by
    have hn := hW.2.1
    have e1 : M 69 1 = nI nb := by rw [hM, ntG_out i (fun b hb => by omega)]; exact hW.1
    rw [sg12_night_145, e1]
    simp (disch := omega) only [false_or, nle9, nI_dec9, nI_add, pk_mul, pk_sub, nI_clamp, nI_in9, nI_pos9, nI_lt9, nI_le9, nI_eq9, nI_eq09, nI_le09, am_k_m1, if_true, if_false, ite_not, Classical.not_not]
    rw [if_pos (by omega), show d + 41 = d + 40 + 1 from rfl, m_spot]
    simp only [Option.bind_some, Option.toList_some, Option.toList_none, List.cons_append, List.nil_append, bi_eq0, bi_eq1, bi_nem, if_true, if_false, ite_not, Classical.not_not, sg12_night_166]
    simp (disch := omega) only [false_or, nle9, nI_dec9, nI_add, pk_mul, pk_sub, nI_clamp, nI_in9, nI_pos9, nI_lt9, nI_le9, nI_eq9, nI_eq09, nI_le09, am_k_m1, if_true, if_false, ite_not, Classical.not_not]
    obtain ⟨M2, b1, b2, b3, b4⟩ := m_night_b d nb ng pg x1 S F hW hp k (i + 1) (am_up M 69 (2 + 9 * i + (3 + pg)) (M 73 i)) w4 w5 w6 w7 (by omega) (by
      show am_setc M 69 _ 69 = upd _ _ _
      rw [stc_eq, hM, hF]) (by rw [au_b (by decide)]; exact hF)
    exact ⟨M2, b1, b2, b3, J6_tr (J6_up (by simp) (by decide)) b4⟩
theorem m_night (d nb ng pn : Nat) (hg : ng < 2147483648) (hpn : pn ≤ 6) (M : am_M) (hW : WS (M 69) nb ng) (hK : txK (M 69) 0) : ∃ M', am_call (d + 42) i12_night [.ref 68, .int (pnM pn)] M = some (none, M') ∧ M' 69 = ntS (M 69) nb (ng % 6) pn ∧ saV (M 69) nb (ng % 6) pn (M' 73) nb ∧ J6 [69, 73] M M' := by
  have hp : ng % 6 < 6 := Nat.mod_lt _ (by omega)
  rw [ec12_night, hW.2.2.1, pk_rem (by omega) (by omega) (by omega)]
  obtain ⟨M1, v4, v5, v6, v7, a1, a2, a3, a4⟩ := m_night_a d nb ng (ng % 6) pn (M 69) hW hp hpn hK nb 0 M .null .null .null .null (by omega) rfl (fun q hq => by omega)
  rw [a1]
  obtain ⟨M2, b1, b2, b3, b4⟩ := m_night_b d nb ng (ng % 6) (pnM pn) (M 69) (M1 73) hW hp nb 0 M1 v4 v5 v6 v7 (by omega) a2 rfl
  refine ⟨M2, b1, ?_, by rw [b3]; exact a3, J6_tr (J6_mo a4 (by simp)) (J6_mo b4 (by simp))⟩
  rw [b2, ntG_F hW hp a3]
  rfl
/-- n nights, as a function -/
def goS (S : Nat → Int32) (nb ng pn : Nat) : Nat → Nat → Int32
  | 0 => S
  | n + 1 => ntS (goS S nb ng pn n) nb ((ng + n) % 6) pn
theorem goS_WS {S : Nat → Int32} {nb ng pn : Nat} (h : WS S nb ng) : ∀ n, WS (goS S nb ng pn n) nb (ng + n)
  | 0 => h
  | n + 1 => ntS_WS (goS_WS h n) (Nat.mod_lt _ (by omega))
theorem goS_hi {S : Nat → Int32} {nb ng pn : Nat} (h : WS S nb ng) {j : Nat} (hj : 56 ≤ j) : ∀ n, goS S nb ng pn n j = S j
  | 0 => rfl
  | n + 1 => (ntS_hi (goS_WS h n) (Nat.mod_lt _ (by omega)) hj).trans (goS_hi h hj n)
theorem TR_S {f g S S' : Nat → Int32} {use : Nat} (hu : use ≤ 1) (h : TR f g S use) (hS : ∀ j, 62 ≤ j → S' j = S j) : TR f g S' use := by
  rcases h with ⟨h1, h2⟩ | ⟨n, code, hn, h1, hg, h2⟩
  · exact Or.inl ⟨(hS _ (by omega)).trans h1, h2⟩
  · refine Or.inr ⟨n, code, hn, (hS _ (by omega)).trans h1, ?_, h2⟩
    have e : (fun i => S' (117 + 50 * use + i)) = fun i => S (117 + 50 * use + i) := funext fun i => hS _ (by omega)
    rw [e]
    exact hg
theorem txK_S {S S' : Nat → Int32} {use : Nat} (h : txK S use) (hS : ∀ j, 62 ≤ j → S' j = S j) : txK S' use := by
  unfold txK
  rw [hS _ (by omega)]
  exact h
theorem m_go_l (d nb ng pn n : Nat) (hg : ng + n < 2147483648) (hpn : pn ≤ 6) (S : Nat → Int32) (hW : WS S nb ng) (hK : txK S 0) : ∀ (k i : Nat) (M : am_M), i + k = n → M 69 = goS S nb ng pn i → ∃ M', am_lim (am_call (d + 42)) (am_R i12_go) (am_tx i12_go) 2 [.ref 68, .int (nI n), .int (pnM pn), .int (nI i)] [] M = some (none, M') ∧ M' 69 = goS S nb ng pn n ∧ J6 [69, 73] M M'
  | 0, i, M, h, hM => by
    have : i = n := by omega
    subst this
    rw [sg12_go_2]
    simp (disch := omega) only [false_or, nle9, nI_dec9, nI_add, pk_mul, pk_sub, nI_clamp, nI_in9, nI_pos9, nI_lt9, nI_le9, nI_eq9, nI_eq09, nI_le09, am_k_m1, if_true, if_false, ite_not, Classical.not_not]
    rw [if_neg (by omega)]
    exact ⟨M, rfl, hM, J6_rf⟩
  | k + 1, i, M, h, hM => by
    have hWi : WS (M 69) nb (ng + i) := hM ▸ goS_WS hW i
    rw [sg12_go_2]
    simp (disch := omega) only [false_or, nle9, nI_dec9, nI_add, pk_mul, pk_sub, nI_clamp, nI_in9, nI_pos9, nI_lt9, nI_le9, nI_eq9, nI_eq09, nI_le09, am_k_m1, if_true, if_false, ite_not, Classical.not_not]
    rw [if_pos (by omega)]
    obtain ⟨M1, a1, a2, a3, a4⟩ := m_night d nb (ng + i) pn (by omega) hpn M hWi (txK_S hK (fun j hj => by rw [hM]; exact goS_hi hW (by omega) i))
    rw [a1]
    simp only [Option.bind_some, Option.toList_some, Option.toList_none, List.cons_append, List.nil_append, bi_eq0, bi_eq1, bi_nem, if_true, if_false, ite_not, Classical.not_not, sg12_go_12]
    rw [nI_add]
    obtain ⟨M2, b1, b2, b3⟩ := m_go_l d nb ng pn n hg hpn S hW hK k (i + 1) M1 (by omega) (by rw [a2, hM]; rfl)
    exact ⟨M2, b1, b2, J6_tr a4 b3⟩
theorem m_go (d nb ng pn n : Nat) (hg : ng + n < 2147483648) (hpn : pn ≤ 6) (M : am_M) (hW : WS (M 69) nb ng) (hK : txK (M 69) 0) : ∃ M', am_call (d + 43) i12_go [.ref 68, .int (nI n), .int (pnM pn)] M = some (none, M') ∧ M' 69 = goS (M 69) nb ng pn n ∧ J6 [69, 73] M M' := by
  rw [ec12_go]
  exact m_go_l d nb ng pn n hg hpn (M 69) hW hK n 0 M (by omega) rfl
theorem c_think_l (d nb ng pn n : Nat) (hg : ng + n < 2147483648) (hpn : pn ≤ 6) (S : Nat → Int32) (hW : WS S nb ng) : ∀ (k i : Nat) (M : am_M), i + k = n → RS M 23 (goS S nb ng pn i) nb → TR (M 33) (M 34) S 0 → ∃ M', am_lim (am_call (d + 4)) (am_R i11_thinkNights) (am_tx i11_thinkNights) 2 [.ref 0, .int (nI n), .int (nI pn), .int (nI i)] [] M = some (none, M') ∧ RS M' 23 (goS S nb ng pn n) nb ∧ Ch [23, 27, 29, 35] M M'
  | 0, i, M, h, hM, hT => by
    have : i = n := by omega
    subst this
    rw [sg11_thinkNights_2]
    simp (disch := omega) only [false_or, nle9, nI_dec9, nI_add, pk_mul, pk_sub, nI_clamp, nI_in9, nI_pos9, nI_lt9, nI_le9, nI_eq9, nI_eq09, nI_le09, am_k_m1, if_true, if_false, ite_not, Classical.not_not]
    rw [if_neg (by omega)]
    exact ⟨M, rfl, hM, Ch_rf⟩
  | k + 1, i, M, h, hM, hT => by
    rw [sg11_thinkNights_2]
    simp (disch := omega) only [false_or, nle9, nI_dec9, nI_add, pk_mul, pk_sub, nI_clamp, nI_in9, nI_pos9, nI_lt9, nI_le9, nI_eq9, nI_eq09, nI_le09, am_k_m1, if_true, if_false, ite_not, Classical.not_not]
    rw [if_pos (by omega)]
    obtain ⟨M1, a1, a2, a3⟩ := c_passNight d 23 nb (ng + i) pn (by omega) (goS S nb ng pn i) (goS_WS hW i) (by omega) hpn M hM (TR_S (by omega) hT (fun j hj => goS_hi hW (by omega) i))
    rw [a1]
    simp only [Option.bind_some, Option.toList_some, Option.toList_none, List.cons_append, List.nil_append, bi_eq0, bi_eq1, bi_nem, if_true, if_false, ite_not, Classical.not_not, sg11_thinkNights_19]
    rw [nI_add]
    obtain ⟨M2, b1, b2, b3⟩ := c_think_l d nb ng pn n hg hpn S hW k (i + 1) M1 (by omega) a2 (by rw [a3 33 (by decide), a3 34 (by decide)]; exact hT)
    exact ⟨M2, b1, b2, Ch_tr a3 b3⟩
theorem c_think (d nb ng pn n : Nat) (hg : ng + n < 2147483648) (hpn : pn ≤ 6) (S : Nat → Int32) (hW : WS S nb ng) (M : am_M) (hR : RS M 23 S nb) (hT : TR (M 33) (M 34) S 0) : ∃ M', am_call (d + 5) i11_thinkNights [.ref 0, .int (nI n), .int (nI pn)] M = some (none, M') ∧ RS M' 23 (goS S nb ng pn n) nb ∧ Ch [23, 27, 29, 35] M M' := by
  rw [ec11_thinkNights]
  exact c_think_l d nb ng pn n hg hpn S hW n 0 M (by omega) hR hT
