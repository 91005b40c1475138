/-! the public calls: readers -/
def nz (z : Int32) : Int32 := z * nI 1103515245 + nI 12345
def dk (z : Int32) : Nat := (nz z).toUInt32.toNat / 256
theorem dk_lt (z : Int32) : dk z < 16777216 := by
  have := (nz z).toUInt32.toNat_lt
  unfold dk
  omega
theorem u32_nI (u : UInt32) : u.toInt32 = nI u.toNat := by
  apply Int32.toBitVec_inj.mp
  show u.toBitVec = BitVec.ofNat 32 u.toBitVec.toNat
  rw [BitVec.ofNat_toNat, BitVec.setWidth_eq]
theorem draw_n (x : Int32) : (x.toUInt32 >>> ((nI 8).toUInt32 &&& Int32.toUInt32 31)).toInt32 = nI (x.toUInt32.toNat / 256) := by
  have h8 : ((nI 8).toUInt32 &&& Int32.toUInt32 31) = 8 := by decide +kernel
  rw [h8, u32_nI, UInt32.toNat_shiftRight]
  have h : (8 : UInt32).toNat % 32 = 8 := by decide +kernel
  rw [h, Nat.shiftRight_eq_div_pow]
theorem c_draw (d : Nat) (M : am_M) (z : Int32) (h : M 30 4 = z) : am_call (d + 1) i1_draw [.ref 30] M = some (some (.int (nI (dk z))), am_up M 30 4 (nz z)) := by
  rw [ec1_draw, au_s, h, draw_n]
  rfl
theorem m_draw (d : Nat) (M : am_M) (z : Int32) (h : M 69 62 = z) : am_call (d + 1) i12_draw [.ref 68] M = some (some (.int (nI (dk z))), am_up M 69 62 (nz z)) := by
  rw [ec12_draw, au_s, h, draw_n]
  rfl
def rzS (S : Nat → Int32) : Nat → Int32 := upd S 62 (nz (nz (S 62)))
def rdQ (S : Nat → Int32) (nb : Nat) : Nat → Int32 := rowU (rzS S) nb (mvr (fun i => rzS S (56 + i)) (dk (S 62) % nb) (dk (nz (S 62)) % nb))
def rdP (S : Nat → Int32) (nb : Nat) : Nat → Int32 := if nb = 0 then S else rdQ S nb
def rdS (S : Nat → Int32) (nb ng : Nat) : Nat → Nat → Int32
  | 0 => S
  | n + 1 => ntS (rdP (rdS S nb ng n) nb) nb ((ng + n) % 6) 0
theorem rzS_lo {S : Nat → Int32} {j : Nat} (h : j ≠ 62) : rzS S j = S j := upd_ne h
theorem rdP_WS {S : Nat → Int32} {nb ng : Nat} (h : WS S nb ng) : WS (rdP S nb) nb ng := by
  unfold rdP
  by_cases c : nb = 0
  · rw [if_pos c]; exact h
  · rw [if_neg c]
    have h2 : WS (rzS S) nb ng := WS_lo h (fun j hj => rzS_lo (by omega))
    exact WS_row2 h2 (PR_mvr h2.2.2.2.2 (Nat.mod_lt _ (by omega)) (Nat.mod_lt _ (by omega)))
theorem rdP_hi {S : Nat → Int32} {nb j : Nat} (hn : nb ≤ 6) (hj : 63 ≤ j) : rdP S nb j = S j := by
  unfold rdP rdQ
  by_cases c : nb = 0
  · rw [if_pos c]
  · rw [if_neg c, rowU_hi (by omega), rzS_lo (by omega)]
theorem rdS_WS {S : Nat → Int32} {nb ng : Nat} (h : WS S nb ng) : ∀ n, WS (rdS S nb ng n) nb (ng + n)
  | 0 => h
  | n + 1 => ntS_WS (rdP_WS (rdS_WS h n)) (Nat.mod_lt _ (by omega))
theorem rdS_hi {S : Nat → Int32} {nb ng j : Nat} (h : WS S nb ng) (hj : 63 ≤ j) : ∀ n, rdS S nb ng n j = S j
  | 0 => rfl
  | n + 1 => (ntS_hi (rdP_WS (rdS_WS h n)) (Nat.mod_lt _ (by omega)) (by omega)).trans ((rdP_hi h.2.1 hj).trans (rdS_hi h hj n))
theorem rdS_62 {S : Nat → Int32} {nb ng n : Nat} (h : WS S nb ng) : rdS S nb ng (n + 1) 62 = rdP (rdS S nb ng n) nb 62 := ntS_hi (rdP_WS (rdS_WS h n)) (Nat.mod_lt _ (by omega)) (by omega)
theorem TR_63 {f g S S' : Nat → Int32} {use : Nat} (h : TR f g S use) (hS : ∀ j, 63 ≤ j → S' j = S j) : TR f g S' use := TR_S3 h (hS _ (by omega)) (fun i hi => hS _ (by omega))
theorem txK_63 {S S' : Nat → Int32} {use : Nat} (h : txK S use) (hS : ∀ j, 63 ≤ j → S' j = S j) : txK S' use := by
  unfold txK
  rw [hS _ (by omega)]
  exact h
theorem c_rd_p (d nb ng : Nat) (x1 x2 : Int32) (T : Nat → Int32) (hW : WS T nb ng) (w3 w4 : Value) (M : am_M) (hR : RS M 9 T nb) (h4 : M 30 4 = T 62) : ∃ M' v3 v4, (if M 9 7 ≤ 0 then am_lim (am_call (d + 1)) (am_R i11_readers) (am_tx i11_readers) 97 [.ref 0, .int x1, .int x2, w3, w4] [] M else (am_call (d + 1) i1_draw [.ref 30] M).bind (fun q => am_lim (am_call (d + 1)) (am_R i11_readers) (am_tx i11_readers) 61 [.ref 0, .int x1, .int x2, w3, w4] (q.1.toList ++ []) q.2)) = am_lim (am_call (d + 1)) (am_R i11_readers) (am_tx i11_readers) 97 [.ref 0, .int x1, .int x2, v3, v4] [] M' ∧ RS M' 9 (rdP T nb) nb ∧ M' 30 4 = rdP T nb 62 ∧ (∀ j, j ≠ 4 → M' 30 j = M 30 j) ∧ Ch [14, 30] M M' := by
  have hn := hW.2.1
  have h7 : M 9 7 = nI nb := hR.1.trans hW.1
  rw [h7]
  simp (disch := omega) only [nI_le09]
  unfold rdP
  by_cases c : nb = 0
  · rw [if_pos c, if_pos c]
    exact ⟨M, w3, w4, rfl, hR, h4, fun _ _ => rfl, Ch_rf⟩
  · rw [if_neg c, if_neg c, c_draw _ M (T 62) h4]
    simp only [Option.bind_some, Option.toList_some, Option.toList_none, List.cons_append, List.nil_append, bi_eq0, bi_eq1, bi_nem, if_true, if_false, ite_not, Classical.not_not, sg11_readers_61]
    have hk := dk_lt (T 62)
    have hk2 := dk_lt (nz (T 62))
    rw [au_b (by decide), h7, if_neg (by rw [nI_eq09 (by omega)]; exact c), c_draw _ _ (nz (T 62)) au_s, pk_rem (by omega) (by omega) (by omega)]
    simp only [Option.bind_some, Option.toList_some, Option.toList_none, List.cons_append, List.nil_append, bi_eq0, bi_eq1, bi_nem, if_true, if_false, ite_not, Classical.not_not, sg11_readers_77]
    rw [au_b (by decide), au_b (by decide), h7, if_neg (by rw [nI_eq09 (by omega)]; exact c), pk_rem (by omega) (by omega) (by omega)]
    have hf : dk (T 62) % nb < nb := Nat.mod_lt _ (by omega)
    have hp : dk (nz (T 62)) % nb < nb := Nat.mod_lt _ (by omega)
    rw [c_moveBook _ 9 (by omega) _ (dk (T 62) % nb) (dk (nz (T 62)) % nb) (by omega) (by omega)]
    simp only [Option.bind_some, Option.toList_some, Option.toList_none, List.cons_append, List.nil_append, bi_eq0, bi_eq1, bi_nem, if_true, if_false, ite_not, Classical.not_not]
    have hR1 : RS (am_up (am_up M 30 4 (nz (T 62))) 30 4 (nz (nz (T 62)))) 9 (rzS T) nb := RS_lo hR hn (fun j hj => rzS_lo (by omega)) (fun a ha => by
      have : a ≠ 30 := by revert a; decide
      rw [au_b this, au_b this])
    refine ⟨_, _, _, rfl, RS_mv hR1 hn hf hp (by refine ⟨?_, ?_, ?_, ?_, ?_⟩ <;> exact stc_ne (by decide)) stc_eq, ?_, fun j hj => ?_, Ch_tr (Ch_tr (Ch_up (by decide)) (Ch_up (by decide))) (Ch_sc (by decide))⟩
    · rw [stc_ne (by decide), au_s]
      unfold rdQ rzS
      rw [rowU_hi (by omega), upd_eq]
    · rw [stc_ne (by decide), au_j hj, au_j hj]
theorem c_rd_l (d nb ng n : Nat) (hg : ng + n < 2147483648) (S : Nat → Int32) (hW : WS S nb ng) : ∀ (k i : Nat) (w3 w4 : Value) (M : am_M), i + k = n → RS M 9 (rdS S nb ng i) nb → M 30 4 = rdS S nb ng i 62 → TR (M 33) (M 34) S 0 → TR (M 37) (M 38) S 1 → ∃ M', am_lim (am_call (d + 5)) (am_R i11_readers) (am_tx i11_readers) 39 [.ref 0, .int (nI n), .int (nI i), w3, w4] [] M = some (some (.int (nI (alF (rdS S nb ng n) nb))), M') ∧ RS M' 9 (rdS S nb ng n) nb ∧ M' 30 4 = rdS S nb ng n 62 ∧ (∀ j, j ≠ 4 → M' 30 j = M 30 j) ∧ Ch [9, 13, 14, 15, 30, 35, 39] M M'
  | 0, i, w3, w4, M, h, hR, h4, hT, hT1 => by
    have : i = n := by omega
    subst this
    rw [sg11_readers_39]
    simp (disch := omega) only [nI_lt9]
    rw [if_neg (by omega)]
    obtain ⟨M1, a1, a2⟩ := c_allSense d 9 nb (by omega) hW.2.1 (rdS S nb ng i) (rdS_WS hW i).1 M hR (TR_63 hT1 (fun j hj => rdS_hi hW hj i))
    rw [a1]
    simp only [Option.bind_some, Option.toList_some, Option.toList_none, List.cons_append, List.nil_append, bi_eq0, bi_eq1, bi_nem, if_true, if_false, ite_not, Classical.not_not, sg11_readers_127]
    exact ⟨M1, rfl, RS_ch hR (by refine ⟨?_, ?_, ?_, ?_, ?_, ?_⟩ <;> exact a2 _ (by decide)), by rw [a2 30 (by decide)]; exact h4, fun j hj => by rw [a2 30 (by decide)], Ch_mo a2 (by decide)⟩
  | k + 1, i, w3, w4, M, h, hR, h4, hT, hT1 => by
    have hWi := rdS_WS hW i
    rw [sg11_readers_39]
    simp (disch := omega) only [nI_lt9]
    rw [if_pos (by omega)]
    obtain ⟨M0, v3, v4, e1, e2, e3, e4, e5⟩ := c_rd_p (d + 4) nb (ng + i) (nI n) (nI i) (rdS S nb ng i) hWi w3 w4 M hR h4
    have e1' : (if M 9 7 ≤ 0 then am_lim (am_call (d + 5)) (am_R i11_readers) (am_tx i11_readers) 97 [.ref 0, .int (nI n), .int (nI i), w3, w4] [] M else (am_call (d + 5) i1_draw [.ref 30] M).bind (fun q => am_lim (am_call (d + 5)) (am_R i11_readers) (am_tx i11_readers) 61 [.ref 0, .int (nI n), .int (nI i), w3, w4] (q.1.toList ++ []) q.2)) = am_lim (am_call (d + 5)) (am_R i11_readers) (am_tx i11_readers) 97 [.ref 0, .int (nI n), .int (nI i), v3, v4] [] M0 := e1
    rw [e1', sg11_readers_97]
    obtain ⟨M1, a1, a2, a3⟩ := c_passNight (d + 1) 9 nb (ng + i) 0 (by omega) (rdP (rdS S nb ng i) nb) (rdP_WS hWi) (by omega) (by omega) M0 e2 (by rw [e5 33 (by decide), e5 34 (by decide)]; exact TR_63 hT (fun j hj => (rdP_hi hW.2.1 hj).trans (rdS_hi hW hj i)))
    rw [a1]
    simp only [Option.bind_some, Option.toList_some, Option.toList_none, List.cons_append, List.nil_append, bi_eq0, bi_eq1, bi_nem, if_true, if_false, ite_not, Classical.not_not, sg11_readers_109]
    rw [nI_add]
    have hC : Ch [9, 13, 14, 15, 30, 35, 39] M M1 := Ch_tr (Ch_mo e5 (by decide)) (Ch_mo a3 (by decide))
    obtain ⟨M2, b1, b2, b3, b4, b5⟩ := c_rd_l d nb ng n hg S hW k (i + 1) v3 v4 M1 (by omega) a2 (by rw [a3 30 (by decide), e3, rdS_62 hW]) (by rw [hC 33 (by decide), hC 34 (by decide)]; exact hT) (by rw [hC 37 (by decide), hC 38 (by decide)]; exact hT1)
    exact ⟨M2, b1, b2, b3, fun j hj => by rw [b4 j hj, a3 30 (by decide), e4 j hj], Ch_tr hC b5⟩
theorem upd_2 {f : Nat → Int32} {a : Nat} {x y : Int32} : upd (upd f a x) a y = upd f a y := by
  funext j
  by_cases e : j = a
  · subst e; rw [upd_eq, upd_eq]
  · rw [upd_ne e, upd_ne e, upd_ne e]
theorem m_rd_s (d nb ng : Nat) (hg : ng < 2147483648) (x1 x2 : Int32) (w3 w4 : Value) (M : am_M) (hW : WS (M 69) nb ng) (hK : txK (M 69) 0) : ∃ M' v3 v4, (if M 69 1 ≤ 0 then (am_call (d + 42) i12_night [.ref 68, .int (am_k (-1))] M).bind (fun q => am_lim (am_call (d + 42)) (am_R i12_readers) (am_tx i12_readers) 99 [.ref 68, .int x1, .int x2, w3, w4] (q.1.toList ++ []) q.2) else (am_call (d + 42) i12_draw [.ref 68] M).bind (fun q => am_lim (am_call (d + 42)) (am_R i12_readers) (am_tx i12_readers) 66 [.ref 68, .int x1, .int x2, w3, w4] (q.1.toList ++ [.int (nI 56), .ref 69]) q.2)) = am_lim (am_call (d + 42)) (am_R i12_readers) (am_tx i12_readers) 99 [.ref 68, .int x1, .int x2, v3, v4] [] M' ∧ M' 69 = ntS (rdP (M 69) nb) nb (ng % 6) 0 ∧ J6 [69, 73] M M' := by
  have hn := hW.2.1
  rw [hW.1]
  simp (disch := omega) only [nI_le09]
  unfold rdP
  by_cases c : nb = 0
  · rw [if_pos c, if_pos c, pn0]
    obtain ⟨M1, a1, a2, a3, a4⟩ := m_night d nb ng 0 hg (by omega) M hW hK
    rw [a1]
    exact ⟨M1, w3, w4, rfl, a2, a4⟩
  · rw [if_neg c, if_neg c, m_draw _ M _ rfl]
    simp only [Option.bind_some, Option.toList_some, Option.toList_none, List.cons_append, List.nil_append, bi_eq0, bi_eq1, bi_nem, if_true, if_false, ite_not, Classical.not_not, sg12_readers_66]
    have hk := dk_lt (M 69 62)
    have hk2 := dk_lt (nz (M 69 62))
    have hf : dk (M 69 62) % nb < nb := Nat.mod_lt _ (by omega)
    have hp : dk (nz (M 69 62)) % nb < nb := Nat.mod_lt _ (by omega)
    rw [au_69, upd_ne (show 1 ≠ 62 by decide), hW.1, if_neg (by rw [nI_eq09 (by omega)]; exact c), pk_rem (by omega) (by omega) (by omega), nI_add]
    simp (disch := omega) only [false_or, nle9, nI_dec9, nI_add, pk_mul, pk_sub, nI_clamp, nI_in9, nI_pos9, nI_lt9, nI_le9, nI_eq9, nI_eq09, nI_le09, am_k_m1, if_true, if_false, ite_not, Classical.not_not]
    rw [m_draw _ _ (nz (M 69 62)) au_s, upd_ne (by omega)]
    simp only [Option.bind_some, Option.toList_some, Option.toList_none, List.cons_append, List.nil_append, bi_eq0, bi_eq1, bi_nem, if_true, if_false, ite_not, Classical.not_not, sg12_readers_82]
    have e69 : am_up (am_up M 69 62 (nz (M 69 62))) 69 62 (nz (nz (M 69 62))) 69 = rzS (M 69) := by
      rw [au_69, au_69]
      exact upd_2
    have hJ1 : J6 [69, 73] M (am_up (am_up M 69 62 (nz (M 69 62))) 69 62 (nz (nz (M 69 62)))) := J6_tr (J6_up (by decide) (by decide)) (J6_up (by decide) (by decide))
    generalize am_up (am_up M 69 62 (nz (M 69 62))) 69 62 (nz (nz (M 69 62))) = M2 at e69 hJ1
    have hWz : WS (rzS (M 69)) nb ng := WS_lo hW (fun j hj => rzS_lo (by omega))
    rw [e69, hWz.1, if_neg (by rw [nI_eq09 (by omega)]; exact c), pk_rem (by omega) (by omega) (by omega)]
    have z1 := (WS_row hW hf).2
    rw [m_goes _ M2 nb (dk (M 69 62) % nb) (dk (nz (M 69 62)) % nb) _ (by rw [e69]; exact hWz.1) hn hf hp (by rw [e69, rzS_lo (by omega)]) (fun j hj q => by
      rw [e69, rzS_lo (by omega)] at q
      have := hW.2.2.2.2.2.2 j _ (by omega) hf q
      omega)]
    simp only [Option.bind_some, Option.toList_some, Option.toList_none, List.cons_append, List.nil_append, bi_eq0, bi_eq1, bi_nem, if_true, if_false, ite_not, Classical.not_not, sg12_readers_92]
    rw [e69, pn0]
    have hWr : WS (rdQ (M 69) nb) nb ng := by
      have := rdP_WS hW
      unfold rdP at this
      rw [if_neg c] at this
      exact this
    have f3 : am_setc M2 69 (rdQ (M 69) nb) 69 = rdQ (M 69) nb := stc_eq
    have hJ3 : J6 [69, 73] M (am_setc M2 69 (rdQ (M 69) nb)) := J6_tr hJ1 (J6_sc (by decide) (by decide))
    have hr : rowU (rzS (M 69)) nb (mvr (fun i => rzS (M 69) (56 + i)) (dk (M 69 62) % nb) (dk (nz (M 69 62)) % nb)) = rdQ (M 69) nb := rfl
    rw [hr]
    generalize am_setc M2 69 (rdQ (M 69) nb) = M3 at f3 hJ3
    obtain ⟨M4, a1, a2, a3, a4⟩ := m_night d nb ng 0 hg (by omega) M3 (by rw [f3]; exact hWr) (by
      rw [f3]
      refine txK_63 hK (fun j hj => ?_)
      have := rdP_hi (S := M 69) hn hj
      unfold rdP at this
      rw [if_neg c] at this
      exact this)
    rw [a1]
    exact ⟨M4, _, _, rfl, by rw [a2, f3], J6_tr hJ3 a4⟩
theorem m_rd_l (d nb ng n : Nat) (hg : ng + n < 2147483648) (S : Nat → Int32) (hW : WS S nb ng) (hK : txK S 0) (hK1 : txK S 1) : ∀ (k i : Nat) (w3 w4 : Value) (M : am_M), i + k = n → M 69 = rdS S nb ng i → ∃ M', am_lim (am_call (d + 43)) (am_R i12_readers) (am_tx i12_readers) 42 [.ref 68, .int (nI n), .int (nI i), w3, w4] [] M = some (some (.int (nI (alF (rdS S nb ng n) nb))), M') ∧ M' 69 = rdS S nb ng n ∧ J6 [69, 73] M M'
  | 0, i, w3, w4, M, h, hM => by
    have : i = n := by omega
    subst this
    rw [sg12_readers_42]
    simp (disch := omega) only [nI_lt9]
    rw [if_neg (by omega)]
    obtain ⟨M1, a1, a2⟩ := m_allSense d nb hW.2.1 M (by rw [hM]; exact (rdS_WS hW i).1) (by rw [hM]; exact txK_63 hK1 (fun j hj => rdS_hi hW hj i))
    rw [hM] at a1
    rw [a1]
    simp only [Option.bind_some, Option.toList_some, Option.toList_none, List.cons_append, List.nil_append, bi_eq0, bi_eq1, bi_nem, if_true, if_false, ite_not, Classical.not_not, sg12_readers_109]
    exact ⟨M1, rfl, (J68_69 a2).trans hM, J6_J a2⟩
  | k + 1, i, w3, w4, M, h, hM => by
    rw [sg12_readers_42]
    simp (disch := omega) only [nI_lt9]
    rw [if_pos (by omega)]
    obtain ⟨M1, v3, v4, a1, a2, a3⟩ := m_rd_s (d + 1) nb (ng + i) (by omega) (nI n) (nI i) w3 w4 M (by rw [hM]; exact rdS_WS hW i) (by rw [hM]; exact txK_63 hK (fun j hj => rdS_hi hW hj i))
    refine (fun (H : ∃ M', am_lim (am_call (d + 43)) (am_R i12_readers) (am_tx i12_readers) 99 [.ref 68, .int (nI n), .int (nI i), v3, v4] [] M1 = some (some (.int (nI (alF (rdS S nb ng n) nb))), M') ∧ M' 69 = rdS S nb ng n ∧ J6 [69, 73] M M') => ?_) ?_
    · obtain ⟨M', h1, h2⟩ := H
      exact ⟨M', Eq.trans a1 h1, h2⟩
    · rw [sg12_readers_99, nI_add]
      obtain ⟨M2, b1, b2, b3⟩ := m_rd_l d nb ng n hg S hW hK hK1 k (i + 1) v3 v4 M1 (by omega) (by rw [a2, hM]; rfl)
      exact ⟨M2, b1, b2, J6_tr a3 b3⟩
theorem po_readers (d : Nat) (n : Int32) (M : am_M) (hI : IV M M) : PO d i11_readers i12_readers [.int n] M := by
  obtain ⟨nb, ng, hW, hg, hR, hD⟩ := hI.1
  have hn := hW.2.1
  have h7 : M 9 7 = nI nb := hR.1.trans hW.1
  have h8 : M 9 8 = nI ng := hR.2.1.trans hW.2.2.1
  have cB : ∀ (d' : Nat) (x : Int32) (N : am_M), N 9 7 = M 9 7 → am_call (d' + 2) i11_isBook [.ref 0, .int x] N = some (some (.int (bi (0 ≤ x.toInt ∧ x.toInt < nb))), N) := fun d' x N h => c_isBook d' x N nb (h.trans h7) hn
  have cP : ∀ (d' : Nat) (x : Int32) (N : am_M), N 9 7 = M 9 7 → am_call (d' + 2) i11_isPlace [.ref 0, .int x] N = some (some (.int (bi (0 ≤ x.toInt ∧ x.toInt < nb))), N) := fun d' x N h => c_isPlace d' x N nb (h.trans h7) hn
  have cPB : ∀ (d' : Nat) (x y : Int32) (N : am_M), N 9 7 = M 9 7 → am_call (d' + 3) i11_isPageOfBook [.ref 0, .int x, .int y] N = some (some (.int (bi ((0 ≤ x.toInt ∧ x.toInt < nb) ∧ 0 ≤ y.toInt ∧ y.toInt < 6))), N) := fun d' x y N h => c_isPageOfBook d' x y N nb (h.trans h7) hn
  have mB : ∀ (d' : Nat) (x : Int32) (N : am_M), N 69 = M 69 → am_call (d' + 2) i12_isBook [.ref 68, .int x] N = some (some (.int (bi (0 ≤ x.toInt ∧ x.toInt < nb))), N) := fun d' x N h => m_isBook d' x N nb (by rw [h]; exact hW.1) hn
  have cM : ∀ (d' : Nat) (x : Int32) (N : am_M), am_call (d' + 1) i11_isWithin [.int x, .int (nI 1), .int (nI 40)] N = some (some (.int (bi (1 ≤ x.toInt ∧ x.toInt < 41))), N) := fun d' x N => (cW d' x 1 40 N (by omega) (by omega)).trans (bi_out (by omega))
  have mM : ∀ (d' : Nat) (x : Int32) (N : am_M), am_call (d' + 1) i12_in [.long x.toInt64, .long (lN 1), .long (lN 40)] N = some (some (.int (bi (1 ≤ x.toInt ∧ x.toInt < 41))), N) := fun d' x N => (mW d' x 1 40 N (by omega) (by omega)).trans (bi_out (by omega))
  by_cases hn0 : 1 ≤ n.toInt ∧ n.toInt < 41
  · obtain ⟨n', hn', rfl⟩ := i32_of (n := 41) (x := n) (by omega) hn0.2 (by omega)
    by_cases h9 : ng + n' ≤ 9999
    · have hD0 := hD
      obtain ⟨r1, r2, r3, r4, r5, r6, r7, r8, r9⟩ := hD
      obtain ⟨M1, a1, a2, a3, a4, a5⟩ := c_rd_l (d + 54) nb ng n' (by omega) (M 69) hW n' 0 .null .null M (by omega) hR r4 r8 r9
      have f69 : M1 69 = M 69 := a5 69 (by decide)
      obtain ⟨N2, q1, q2, q3⟩ := m_rd_l (d + 16) nb ng n' (by omega) (M 69) hW (TR_K r8) (TR_K r9) n' 0 .null .null M1 (by omega) f69
      have hJ : J6 [9, 13, 14, 15, 30, 35, 39, 69, 73] M N2 := J6_tr (Ch_J6 (Ch_mo a5 (by decide)) (by decide)) (J6_mo q3 (by decide))
      refine ⟨nI (alF (rdS (M 69) nb ng n') nb), M1, N2, ?_, ?_, IV_S hI hJ (by decide) ⟨nb, ng + n', ?_, h9, ?_, ?_⟩⟩
      · rw [ec11_readers, cM]
        simp only [Option.bind_some, Option.toList_some, Option.toList_none, List.cons_append, List.nil_append, bi_eq0, bi_eq1, bi_nem, if_true, if_false, ite_not, Classical.not_not, sg11_readers_7]
        rw [if_pos (hn0), h8]
        simp (disch := omega) only [false_or, nle9, nI_dec9, nI_add, pk_mul, pk_sub, nI_clamp, nI_in9, nI_pos9, nI_lt9, nI_le9, nI_eq9, nI_eq09, nI_le09, am_k_m1, if_true, if_false, ite_not, Classical.not_not]
        rw [if_pos (h9)]
        exact a1
      · rw [ec12_readers, mM]
        simp only [Option.bind_some, Option.toList_some, Option.toList_none, List.cons_append, List.nil_append, bi_eq0, bi_eq1, bi_nem, if_true, if_false, ite_not, Classical.not_not, sg12_readers_9]
        rw [if_pos (hn0), f69, hW.2.2.1]
        simp (disch := omega) only [false_or, nle9, nI_dec9, nI_add, pk_mul, pk_sub, nI_clamp, nI_in9, nI_pos9, nI_lt9, nI_le9, nI_eq9, nI_eq09, nI_le09, am_k_m1, if_true, if_false, ite_not, Classical.not_not]
        rw [if_pos (h9)]
        exact q1
      · rw [q2]; exact rdS_WS hW n'
      · rw [q2]; exact RS_ch a2 (by refine ⟨?_, ?_, ?_, ?_, ?_, ?_⟩ <;> exact J6_c q3 (by decide) (by decide))
      · rw [q2]
        have hhi : ∀ j, 63 ≤ j → rdS (M 69) nb ng n' j = M 69 j := fun j hj => rdS_hi hW hj n'
        have g30 : N2 30 = M1 30 := q3.1 30 (by decide) (by decide)
        have hc : ∀ a ∈ [31, 32, 33, 34, 37, 38], N2 a = M a := fun a ha => J6_c hJ (by revert a; decide) (by revert a; decide)
        refine ⟨?_, ?_, fun i hi => ?_, ?_, ?_, ?_, fun i hi => ?_, TR_63 ?_ hhi, TR_63 ?_ hhi⟩
        · rw [hhi 63 (by omega)]; exact r1
        · rw [hhi 63 (by omega), g30, a4 1 (by decide)]; exact r2
        · rw [hhi _ (by omega), hc (30 + 1) (by decide)]; exact r3 i hi
        · rw [g30]; exact a3
        · rw [hhi 64 (by omega)]; exact r5
        · rw [hhi 64 (by omega), g30, a4 6 (by decide)]; exact r6
        · rw [hhi _ (by omega), hc (30 + 2) (by decide)]; exact r7 i hi
        · rw [hc (30 + 3) (by decide), hc (30 + 4) (by decide)]; exact r8
        · rw [hc (30 + 7) (by decide), hc (30 + 8) (by decide)]; exact r9
    · refine PO_e (k := 3) hI (M1 := M) ?_ Ch_rf ⟨eC M 3, ?_, J6_rf⟩
      · rw [ec11_readers, cM]
        simp only [Option.bind_some, Option.toList_some, Option.toList_none, List.cons_append, List.nil_append, bi_eq0, bi_eq1, bi_nem, if_true, if_false, ite_not, Classical.not_not, sg11_readers_7]
        rw [if_pos (hn0), h8]
        simp (disch := omega) only [false_or, nle9, nI_dec9, nI_add, pk_mul, pk_sub, nI_clamp, nI_in9, nI_pos9, nI_lt9, nI_le9, nI_eq9, nI_eq09, nI_le09, am_k_m1, if_true, if_false, ite_not, Classical.not_not]
        rw [ce _ 3 _ (by omega)]
        simp only [Option.bind_some, Option.toList_some, Option.toList_none, List.cons_append, List.nil_append, bi_eq0, bi_eq1, bi_nem, if_true, if_false, ite_not, Classical.not_not, sg11_readers_36]
      · rw [ec12_readers, mM]
        simp only [Option.bind_some, Option.toList_some, Option.toList_none, List.cons_append, List.nil_append, bi_eq0, bi_eq1, bi_nem, if_true, if_false, ite_not, Classical.not_not, sg12_readers_9]
        rw [if_pos (hn0), eC_b (by decide), hW.2.2.1]
        simp (disch := omega) only [false_or, nle9, nI_dec9, nI_add, pk_mul, pk_sub, nI_clamp, nI_in9, nI_pos9, nI_lt9, nI_le9, nI_eq9, nI_eq09, nI_le09, am_k_m1, if_true, if_false, ite_not, Classical.not_not]
        rw [me3]
        simp only [Option.bind_some, Option.toList_some, Option.toList_none, List.cons_append, List.nil_append, bi_eq0, bi_eq1, bi_nem, if_true, if_false, ite_not, Classical.not_not, sg12_readers_39]
  · refine PO_e (k := 1) hI (M1 := M) ?_ Ch_rf ⟨eC M 1, ?_, J6_rf⟩
    · rw [ec11_readers, cM]
      simp only [Option.bind_some, Option.toList_some, Option.toList_none, List.cons_append, List.nil_append, bi_eq0, bi_eq1, bi_nem, if_true, if_false, ite_not, Classical.not_not, sg11_readers_7]
      rw [if_neg (hn0), ce _ 1 _ (by omega)]
      simp only [Option.bind_some, Option.toList_some, Option.toList_none, List.cons_append, List.nil_append, bi_eq0, bi_eq1, bi_nem, if_true, if_false, ite_not, Classical.not_not, sg11_readers_15]
    · rw [ec12_readers, mM]
      simp only [Option.bind_some, Option.toList_some, Option.toList_none, List.cons_append, List.nil_append, bi_eq0, bi_eq1, bi_nem, if_true, if_false, ite_not, Classical.not_not, sg12_readers_9]
      rw [if_neg (hn0), me1]
      simp only [Option.bind_some, Option.toList_some, Option.toList_none, List.cons_append, List.nil_append, bi_eq0, bi_eq1, bi_nem, if_true, if_false, ite_not, Classical.not_not, sg12_readers_18]
