/-! the public calls: move, reads, judge -/
theorem sgu_move (C : am_H) (h g : Nat) (hh : h < 4) (hg : g < 4) (x2 x4 x5 r : Int32) (M : am_M) : am_lim C (am_R i11_move) (am_tx i11_move) 83 [.ref 0, .int (nI h), .int x2, .int (nI g), .int x4, .int x5] [.int r] M = if r = 0 then (C i11_error [.ref 0, .int (nI 1)] M).bind (fun q => am_lim C (am_R i11_move) (am_tx i11_move) 91 [.ref 0, .int (nI h), .int x2, .int (nI g), .int x4, .int x5] (q.1.toList ++ []) q.2) else if 0 ≤ 8 ∧ ¬ x2 < 0 ∧ ¬ x4 < 0 ∧ ¬ x5 < 0 ∧ x2.toNatClampNeg + x5.toNatClampNeg ≤ 40 ∧ x4.toNatClampNeg + x5.toNatClampNeg ≤ 40 then some (some (.int x5), am_setc M (63 + g) (va_cpy (M (63 + h)) (M (63 + g)) x2.toNatClampNeg x4.toNatClampNeg x5.toNatClampNeg)) else none := by
  have h4 : h = 0 ∨ h = 1 ∨ h = 2 ∨ h = 3 := by omega
  have g4 : g = 0 ∨ g = 1 ∨ g = 2 ∨ g = 3 := by omega
  rcases h4 with rfl | rfl | rfl | rfl <;> rcases g4 with rfl | rfl | rfl | rfl
  · exact sg11_move_h00_83 C x2 x4 x5 r M
  · exact sg11_move_h01_83 C x2 x4 x5 r M
  · exact sg11_move_h02_83 C x2 x4 x5 r M
  · exact sg11_move_h03_83 C x2 x4 x5 r M
  · exact sg11_move_h10_83 C x2 x4 x5 r M
  · exact sg11_move_h11_83 C x2 x4 x5 r M
  · exact sg11_move_h12_83 C x2 x4 x5 r M
  · exact sg11_move_h13_83 C x2 x4 x5 r M
  · exact sg11_move_h20_83 C x2 x4 x5 r M
  · exact sg11_move_h21_83 C x2 x4 x5 r M
  · exact sg11_move_h22_83 C x2 x4 x5 r M
  · exact sg11_move_h23_83 C x2 x4 x5 r M
  · exact sg11_move_h30_83 C x2 x4 x5 r M
  · exact sg11_move_h31_83 C x2 x4 x5 r M
  · exact sg11_move_h32_83 C x2 x4 x5 r M
  · exact sg11_move_h33_83 C x2 x4 x5 r M
abbrev rgO (x n : Int32) (ln : Nat) : Prop := 0 ≤ n.toInt ∧ 0 ≤ x.toInt ∧ n.toInt + x.toInt ≤ ln
theorem sub_toInt40 {x : Int32} {ln : Nat} (hx : 0 ≤ x.toInt) (hl : ln ≤ 40) : (nI ln - x).toInt = ln - x.toInt := by
  have := x.toInt_lt
  rw [Int32.toInt_sub, nI_toInt (by omega)]
  simp only [Int.bmod_def]
  omega
theorem c_stand (d h ln : Nat) (hh : h < 4) (hl : ln ≤ 40) (x n : Int32) (M : am_M) (h61 : M 61 h = nI ln) : am_call (d + 1) i11_standThere [.ref 0, .int (nI h), .int x, .int n] M = some (some (.int (bi (rgO x n ln))), M) := by
  rw [ec11_standThere]
  simp (disch := omega) only [false_or, nle9, nI_dec9, nI_add, pk_mul, pk_sub, nI_clamp, nI_in9, nI_pos9, nI_lt9, nI_le9, nI_eq9, nI_eq09, nI_le09, am_k_m1, if_true, if_false, ite_not, Classical.not_not, h61]
  have z0 : (0 : Int32).toInt = 0 := i32_0
  by_cases c1 : n < 0
  · rw [if_pos c1, bi_f _ (fun q => by have := (i32_lt _ _).mp c1; have := q.1; omega)]
  · have d1 : 0 ≤ n.toInt := by
      have : ¬ n.toInt < 0 := fun q => c1 ((i32_lt _ _).mpr (by omega))
      omega
    rw [if_neg c1]
    by_cases c2 : x < 0
    · rw [if_pos c2, bi_f _ (fun q => by have := (i32_lt _ _).mp c2; have := q.2.1; omega)]
    · have d2 : 0 ≤ x.toInt := by
        have : ¬ x.toInt < 0 := fun q => c2 ((i32_lt _ _).mpr (by omega))
        omega
      rw [if_neg c2]
      by_cases c3 : n ≤ nI ln
      · rw [if_pos c3]
        have e := sub_toInt40 d1 hl
        by_cases c4 : x ≤ nI ln - n
        · have := (i32_le _ _).mp c4
          rw [if_pos c4, bi_t _ ⟨d1, d2, by omega⟩]
        · rw [if_neg c4, bi_f _ (fun q => c4 ((i32_le _ _).mpr (by have := q.2.2; omega)))]
      · rw [if_neg c3, bi_f _ (fun q => c3 ((i32_le _ _).mpr (by rw [nI_toInt (by omega)]; have := q.2.2; omega)))]
theorem if_move {α : Type} (i j n : Int32) (l1 l2 : Nat) (h1 : l1 ≤ 40) (h2 : l2 ≤ 40) (E G : α) : (if i < 0 then E else if j < 0 then E else if n < 0 then E else if n ≤ nI l1 - i then (if n ≤ nI l2 - j then G else E) else E) = if rgO i n l1 ∧ rgO j n l2 then G else E := by
  have z0 : (0 : Int32).toInt = 0 := i32_0
  by_cases c1 : i < 0
  · rw [if_pos c1, if_neg (fun q => by have := (i32_lt _ _).mp c1; have := q.1.2.1; omega)]
  · have d1 : 0 ≤ i.toInt := by
      have : ¬ i.toInt < 0 := fun q => c1 ((i32_lt _ _).mpr (by omega))
      omega
    rw [if_neg c1]
    by_cases c2 : j < 0
    · rw [if_pos c2, if_neg (fun q => by have := (i32_lt _ _).mp c2; have := q.2.2.1; omega)]
    · have d2 : 0 ≤ j.toInt := by
        have : ¬ j.toInt < 0 := fun q => c2 ((i32_lt _ _).mpr (by omega))
        omega
      rw [if_neg c2]
      by_cases c3 : n < 0
      · rw [if_pos c3, if_neg (fun q => by have := (i32_lt _ _).mp c3; have := q.1.1; omega)]
      · have d3 : 0 ≤ n.toInt := by
          have : ¬ n.toInt < 0 := fun q => c3 ((i32_lt _ _).mpr (by omega))
          omega
        rw [if_neg c3]
        have e1 := sub_toInt40 d1 h1
        have e2 := sub_toInt40 d2 h2
        by_cases c4 : n ≤ nI l1 - i
        · have f4 := (i32_le _ _).mp c4
          rw [if_pos c4]
          by_cases c5 : n ≤ nI l2 - j
          · have f5 := (i32_le _ _).mp c5
            rw [if_pos c5, if_pos ⟨⟨d3, d1, by omega⟩, d3, d2, by omega⟩]
          · rw [if_neg c5, if_neg (fun q => c5 ((i32_le _ _).mpr (by have := q.2.2.2; omega)))]
        · rw [if_neg c4, if_neg (fun q => c4 ((i32_le _ _).mpr (by have := q.1.2.2; omega)))]
theorem if_move2 {α : Type} {B1 B2 : Prop} {i1 : Decidable B1} {i2 : Decidable B2} (i j n : Int32) (l1 l2 : Nat) (h1 : l1 ≤ 40) (h2 : l2 ≤ 40) (hB1 : ¬ B1) (hB2 : ¬ B2) {E G Z : α} : (if i < 0 then E else if j < 0 then E else if n < 0 then E else if B1 then Z else if n ≤ nI l1 - i then (if B2 then Z else if n ≤ nI l2 - j then G else E) else E) = if rgO i n l1 ∧ rgO j n l2 then G else E := by
  rw [if_neg hB1, if_neg hB2]
  exact if_move i j n l1 l2 h1 h2 E G
def mvT (f F : Nat → Int32) (a n x : Nat) : Int32 := if a ≤ x ∧ x < a + n then F (x - a) else f x
theorem mvT_in {f F : Nat → Int32} {a n x : Nat} (h : a ≤ x ∧ x < a + n) : mvT f F a n x = F (x - a) := if_pos h
theorem mvT_out {f F : Nat → Int32} {a n x : Nat} (h : ¬ (a ≤ x ∧ x < a + n)) : mvT f F a n x = f x := if_neg h
theorem mvT_0 (f F : Nat → Int32) (a : Nat) : mvT f F a 0 = f := funext fun x => if_neg (by omega)
theorem mvT_up (f F : Nat → Int32) (a n : Nat) : upd (mvT f F a n) (a + n) (F n) = mvT f F a (n + 1) := by
  funext j
  by_cases e : j = a + n
  · subst e; rw [upd_eq, mvT_in (by omega), Nat.add_sub_cancel_left]
  · rw [upd_ne e]
    by_cases c : a ≤ j ∧ j < a + n
    · rw [mvT_in c, mvT_in (by omega)]
    · rw [mvT_out c, mvT_out (by omega)]
theorem m_move_a (C : am_H) (h g i j n : Nat) (hh : h < 4) (hi : i + n ≤ 40) (F : Nat → Int32) : ∀ (k q : Nat) (M : am_M), q + k = n → (∀ x, x < n → M 80 (40 * h + i + x) = F x) → (∀ x, x < q → M 81 x = F x) → ∃ M', am_lim C (am_R i12_move) (am_tx i12_move) 119 [.ref 68, .int (nI h), .int (nI i), .int (nI g), .int (nI j), .int (nI n), .int (nI q)] [] M = am_lim C (am_R i12_move) (am_tx i12_move) 156 [.ref 68, .int (nI h), .int (nI i), .int (nI g), .int (nI j), .int (nI n), .int (nI 0)] [] M' ∧ (∀ x, x < n → M' 81 x = F x) ∧ J6 [81] M M'
  | 0, q, M, hk, h80, h81 => by
    have : q = n := by omega
    subst this
    rw [sg12_move_119]
    simp (disch := omega) only [nI_lt9]
    rw [if_neg (by omega)]
    exact ⟨M, rfl, h81, J6_rf⟩
  | k + 1, q, M, hk, h80, h81 => by
    rw [sg12_move_119]
    simp (disch := omega) only [false_or, nle9, nI_dec9, nI_add, pk_mul, pk_sub, nI_clamp, nI_in9, nI_pos9, nI_lt9, nI_le9, nI_eq9, nI_eq09, nI_le09, am_k_m1, if_true, if_false, ite_not, Classical.not_not]
    rw [if_pos (by omega), h80 q (by omega)]
    obtain ⟨M2, b1, b2, b3⟩ := m_move_a C h g i j n hh hi F k (q + 1) (am_up M 81 q (F q)) (by omega) (fun x hx => by rw [au_b (by decide)]; exact h80 x hx) (fun x hx => by
      by_cases c : x = q
      · subst c; exact au_s
      · rw [au_j c]; exact h81 x (by omega))
    exact ⟨M2, b1, b2, J6_tr (J6_up (by decide) (by decide)) b3⟩
theorem m_move_b (C : am_H) (x1 x2 : Int32) (g j n : Nat) (hg : g < 4) (hj : j + n ≤ 40) (f F : Nat → Int32) (M : am_M) (h81 : ∀ x, x < n → M 81 x = F x) : ∀ (k q : Nat), q + k = n → am_lim C (am_R i12_move) (am_tx i12_move) 156 [.ref 68, .int x1, .int x2, .int (nI g), .int (nI j), .int (nI n), .int (nI q)] [] (am_setc M 80 (mvT f F (40 * g + j) q)) = some (some (.int (nI n)), am_setc M 80 (mvT f F (40 * g + j) n))
  | 0, q, hk => by
    have : q = n := by omega
    subst this
    rw [sg12_move_156]
    simp (disch := omega) only [nI_lt9]
    rw [if_neg (by omega)]
  | k + 1, q, hk => by
    rw [sg12_move_156]
    simp (disch := omega) only [false_or, nle9, nI_dec9, nI_add, pk_mul, pk_sub, nI_clamp, nI_in9, nI_pos9, nI_lt9, nI_le9, nI_eq9, nI_eq09, nI_le09, am_k_m1, if_true, if_false, ite_not, Classical.not_not]
    rw [if_pos (by omega), stc_ne (by decide), h81 q (by omega), up_sc, mvT_up]
    exact m_move_b C x1 x2 g j n hg hj f F M h81 k (q + 1) (by omega)
theorem SH_move {M M2 : am_M} {h g i j n l1 l2 : Nat} (hS : SH M M) (hh : h < 4) (hg : g < 4) (h1 : M 61 h = nI l1) (h2 : M 61 g = nI l2) (hl1 : l1 ≤ 40) (hl2 : l2 ≤ 40) (hi : n + i ≤ l1) (hj : n + j ≤ l2) (h60 : M2 60 = M 60) (h61 : M2 61 = M 61) (h63 : M2 (63 + g) = va_cpy (M (63 + h)) (M (63 + g)) i j n) (ho : ∀ q, q < 4 → q ≠ g → M2 (63 + q) = M (63 + q)) (h78 : M2 78 = M 78) (h79 : M2 79 = M 79) (h80 : M2 80 = mvT (M 80) (fun x => M 80 (40 * h + i + x)) (40 * g + j) n) : SH M2 M2 := by
  intro q hq
  rw [h60, h61, h78, h79, h80]
  obtain ⟨a1, a2, m, a3, a4, a5⟩ := hS q hq
  refine ⟨a1, a2, m, a3, a4, fun x hx => ?_⟩
  by_cases e : q = g
  · subst e
    rw [h63]
    by_cases c : j ≤ x ∧ x < j + n
    · rw [pk_cpy_in c.1 c.2, mvT_in (by omega)]
      obtain ⟨-, -, m', a3', a4', a5'⟩ := hS h hh
      have hm : m' = l1 := by
        have := a4'.symm.trans h1
        rwa [nI_eq9 (by omega) (by omega)] at this
      have := a5' (i + (x - j)) (by omega)
      rw [show 40 * h + i + (40 * q + x - (40 * q + j)) = 40 * h + (i + (x - j)) by omega]
      exact this
    · rw [pk_cpy_out (by omega), mvT_out (by omega)]
      exact a5 x hx
  · rw [ho q hq e, mvT_out (by omega)]
    exact a5 x hx
theorem po_move (d : Nat) (h i g j n : Int32) (M : am_M) (hI : IV M M) : PO d i11_move i12_move [.int h, .int i, .int g, .int j, .int n] M := by
  obtain ⟨nb, ng, hW, hg, hR, hD⟩ := hI.1
  have hn := hW.2.1
  have h7 : M 9 7 = nI nb := hR.1.trans hW.1
  have h8 : M 9 8 = nI ng := hR.2.1.trans hW.2.2.1
  have cB : ∀ (d' : Nat) (x : Int32) (N : am_M), N 9 7 = M 9 7 → am_call (d' + 2) i11_isBook [.ref 0, .int x] N = some (some (.int (bi (0 ≤ x.toInt ∧ x.toInt < nb))), N) := fun d' x N h => c_isBook d' x N nb (h.trans h7) hn
  have cP : ∀ (d' : Nat) (x : Int32) (N : am_M), N 9 7 = M 9 7 → am_call (d' + 2) i11_isPlace [.ref 0, .int x] N = some (some (.int (bi (0 ≤ x.toInt ∧ x.toInt < nb))), N) := fun d' x N h => c_isPlace d' x N nb (h.trans h7) hn
  have cPB : ∀ (d' : Nat) (x y : Int32) (N : am_M), N 9 7 = M 9 7 → am_call (d' + 3) i11_isPageOfBook [.ref 0, .int x, .int y] N = some (some (.int (bi ((0 ≤ x.toInt ∧ x.toInt < nb) ∧ 0 ≤ y.toInt ∧ y.toInt < 6))), N) := fun d' x y N h => c_isPageOfBook d' x y N nb (h.trans h7) hn
  have mB : ∀ (d' : Nat) (x : Int32) (N : am_M), N 69 = M 69 → am_call (d' + 2) i12_isBook [.ref 68, .int x] N = some (some (.int (bi (0 ≤ x.toInt ∧ x.toInt < nb))), N) := fun d' x N h => m_isBook d' x N nb (by rw [h]; exact hW.1) hn
  by_cases hs : 0 ≤ h.toInt ∧ h.toInt < 4
  · obtain ⟨h', hh', rfl⟩ := i32_of (n := 4) hs.1 hs.2 (by omega)
    by_cases hs2 : 0 ≤ g.toInt ∧ g.toInt < 4
    · obtain ⟨g', hg', rfl⟩ := i32_of (n := 4) hs2.1 hs2.2 (by omega)
      obtain ⟨e1, e2, ln, hl, e3, e4⟩ := hI.2.2.2.2.2 h' hh'
      obtain ⟨f1, f2, l2, hl2, f3, f4⟩ := hI.2.2.2.2.2 g' hg'
      have hcl : (nI h').toNatClampNeg = h' := nI_clamp (by omega)
      have hcg : (nI g').toNatClampNeg = g' := nI_clamp (by omega)
      have hB : ¬ (nI h' < 0 ∨ 4 ≤ h') := fun q => by rcases q with q | q; exact nI_pos (by omega) q; omega
      have hG : ¬ (nI g' < 0 ∨ 4 ≤ g') := fun q => by rcases q with q | q; exact nI_pos (by omega) q; omega
      by_cases hm : M 60 h' = 0
      · refine PO_e (k := 2) hI (M1 := M) ?_ Ch_rf ⟨eC M 2, ?_, J6_rf⟩
        · rw [ec11_move, c_isSheet]
          simp only [Option.bind_some, Option.toList_some, Option.toList_none, List.cons_append, List.nil_append, bi_eq0, bi_eq1, bi_nem, if_true, if_false, ite_not, Classical.not_not, sg11_move_4]
          rw [if_pos (hs), c_isSheet]
          simp only [Option.bind_some, Option.toList_some, Option.toList_none, List.cons_append, List.nil_append, bi_eq0, bi_eq1, bi_nem, if_true, if_false, ite_not, Classical.not_not, sg11_move_11]
          rw [if_pos (hs2), c_isMissing _ h' _ hh']
          simp only [Option.bind_some, Option.toList_some, Option.toList_none, List.cons_append, List.nil_append, bi_eq0, bi_eq1, bi_nem, if_true, if_false, ite_not, Classical.not_not, sg11_move_25]
          rw [if_pos (hm), ce _ 2 _ (by omega)]
          simp only [Option.bind_some, Option.toList_some, Option.toList_none, List.cons_append, List.nil_append, bi_eq0, bi_eq1, bi_nem, if_true, if_false, ite_not, Classical.not_not, sg11_move_41]
        · rw [ec12_move, m_isSheet]
          simp only [Option.bind_some, Option.toList_some, Option.toList_none, List.cons_append, List.nil_append, bi_eq0, bi_eq1, bi_nem, if_true, if_false, ite_not, Classical.not_not, sg12_move_4]
          rw [if_pos (hs), m_isSheet]
          simp only [Option.bind_some, Option.toList_some, Option.toList_none, List.cons_append, List.nil_append, bi_eq0, bi_eq1, bi_nem, if_true, if_false, ite_not, Classical.not_not, sg12_move_11]
          rw [if_pos (hs2), hcl, hcg, if_neg (hB), eC_b (by decide), ← e1, if_pos (hm), me2]
          simp only [Option.bind_some, Option.toList_some, Option.toList_none, List.cons_append, List.nil_append, bi_eq0, bi_eq1, bi_nem, if_true, if_false, ite_not, Classical.not_not, sg12_move_45]
      · by_cases hm2 : M 60 g' = 0
        · refine PO_e (k := 2) hI (M1 := M) ?_ Ch_rf ⟨eC M 2, ?_, J6_rf⟩
          · rw [ec11_move, c_isSheet]
            simp only [Option.bind_some, Option.toList_some, Option.toList_none, List.cons_append, List.nil_append, bi_eq0, bi_eq1, bi_nem, if_true, if_false, ite_not, Classical.not_not, sg11_move_4]
            rw [if_pos (hs), c_isSheet]
            simp only [Option.bind_some, Option.toList_some, Option.toList_none, List.cons_append, List.nil_append, bi_eq0, bi_eq1, bi_nem, if_true, if_false, ite_not, Classical.not_not, sg11_move_11]
            rw [if_pos (hs2), c_isMissing _ h' _ hh']
            simp only [Option.bind_some, Option.toList_some, Option.toList_none, List.cons_append, List.nil_append, bi_eq0, bi_eq1, bi_nem, if_true, if_false, ite_not, Classical.not_not, sg11_move_25]
            rw [if_neg (hm), c_isMissing _ g' _ hg']
            simp only [Option.bind_some, Option.toList_some, Option.toList_none, List.cons_append, List.nil_append, bi_eq0, bi_eq1, bi_nem, if_true, if_false, ite_not, Classical.not_not, sg11_move_33]
            rw [if_pos (hm2), ce _ 2 _ (by omega)]
            simp only [Option.bind_some, Option.toList_some, Option.toList_none, List.cons_append, List.nil_append, bi_eq0, bi_eq1, bi_nem, if_true, if_false, ite_not, Classical.not_not, sg11_move_41]
          · rw [ec12_move, m_isSheet]
            simp only [Option.bind_some, Option.toList_some, Option.toList_none, List.cons_append, List.nil_append, bi_eq0, bi_eq1, bi_nem, if_true, if_false, ite_not, Classical.not_not, sg12_move_4]
            rw [if_pos (hs), m_isSheet]
            simp only [Option.bind_some, Option.toList_some, Option.toList_none, List.cons_append, List.nil_append, bi_eq0, bi_eq1, bi_nem, if_true, if_false, ite_not, Classical.not_not, sg12_move_11]
            rw [if_pos (hs2), hcl, hcg, if_neg (hB), eC_b (by decide), ← e1, if_neg (hm), if_neg (hG), ← f1, if_pos (hm2), me2]
            simp only [Option.bind_some, Option.toList_some, Option.toList_none, List.cons_append, List.nil_append, bi_eq0, bi_eq1, bi_nem, if_true, if_false, ite_not, Classical.not_not, sg12_move_45]
        · by_cases hb : M 60 h' = M 60 g'
          · by_cases hr : rgO i n ln
            · by_cases hr2 : rgO j n l2
              · obtain ⟨n', hn', rfl⟩ := i32_of (x := n) (n := 41) hr.1 (by have := hr.2; omega) (by omega)
                obtain ⟨i', hi', rfl⟩ := i32_of (x := i) (n := 41) hr.2.1 (by have := hr.2; have := hr.1; omega) (by omega)
                obtain ⟨j', hj', rfl⟩ := i32_of (x := j) (n := 41) hr2.2.1 (by have := hr2.2; have := hr.1; omega) (by omega)
                have hr' := hr.2.2
                have hr2' := hr2.2.2
                rw [nI_toInt (by omega), nI_toInt (by omega)] at hr' hr2'
                have hmm := memHL hh'
                have hmg := memHL hg'
                generalize hM1 : am_setc M (63 + g') (va_cpy (M (63 + h')) (M (63 + g')) i' j' n') = M1
                have f80 : M1 80 = M 80 := by rw [← hM1, stc_ne (by omega)]
                obtain ⟨M2, b1, b2, b3⟩ := m_move_a (am_call (d + 59)) h' g' i' j' n' hh' (by omega) (fun x => M 80 (40 * h' + i' + x)) n' 0 M1 (by omega) (fun x hx => by rw [f80]) (fun x hx => by omega)
                have b5 := m_move_b (am_call (d + 59)) (nI h') (nI i') g' j' n' hg' (by omega) (M2 80) (fun x => M 80 (40 * h' + i' + x)) M2 b2 n' 0 (by omega)
                rw [mvT_0, stc_self] at b5
                have g80 : M2 80 = M 80 := (b3.1 80 (by decide) (by decide)).trans f80
                rw [g80] at b5
                have hJ : J6 HL M (am_setc M2 80 (mvT (M 80) (fun x => M 80 (40 * h' + i' + x)) (40 * g' + j') n')) := J6_tr (J6_tr (by rw [← hM1]; exact J6_sc hmg.1 hmg.2.1) (J6_mo b3 (by decide))) (J6_sc (by decide) (by decide))
                have o1 : ∀ a, a ≠ 80 → a ≠ 81 → a ≠ 68 → a ≠ 63 + g' → am_setc M2 80 (mvT (M 80) (fun x => M 80 (40 * h' + i' + x)) (40 * g' + j') n') a = M a := fun a q1 q2 q3 q4 => by
                  rw [stc_ne q1, b3.1 a (by simp [q2]) q3, ← hM1, stc_ne q4]
                have m60 : M1 78 = M 78 := by rw [← hM1, stc_ne (by omega)]
                have m61 : M1 79 = M 79 := by rw [← hM1, stc_ne (by omega)]
                refine ⟨nI n', M1, am_setc M2 80 (mvT (M 80) (fun x => M 80 (40 * h' + i' + x)) (40 * g' + j') n'), ?_, ?_, IV_H hI hJ (fun a ha => ha) (SH_move hI.2.2.2.2.2 hh' hg' e3 f3 hl hl2 (by omega) (by omega) ?_ ?_ ?_ (fun q hq hqg => ?_) ?_ ?_ stc_eq)⟩
                · rw [ec11_move, c_isSheet]
                  simp only [Option.bind_some, Option.toList_some, Option.toList_none, List.cons_append, List.nil_append, bi_eq0, bi_eq1, bi_nem, if_true, if_false, ite_not, Classical.not_not, sg11_move_4]
                  rw [if_pos (hs), c_isSheet]
                  simp only [Option.bind_some, Option.toList_some, Option.toList_none, List.cons_append, List.nil_append, bi_eq0, bi_eq1, bi_nem, if_true, if_false, ite_not, Classical.not_not, sg11_move_11]
                  rw [if_pos (hs2), c_isMissing _ h' _ hh']
                  simp only [Option.bind_some, Option.toList_some, Option.toList_none, List.cons_append, List.nil_append, bi_eq0, bi_eq1, bi_nem, if_true, if_false, ite_not, Classical.not_not, sg11_move_25]
                  rw [if_neg (hm), c_isMissing _ g' _ hg']
                  simp only [Option.bind_some, Option.toList_some, Option.toList_none, List.cons_append, List.nil_append, bi_eq0, bi_eq1, bi_nem, if_true, if_false, ite_not, Classical.not_not, sg11_move_33]
                  rw [if_neg (hm2)]
                  simp (disch := omega) only [false_or, nle9, nI_dec9, nI_add, pk_mul, pk_sub, nI_clamp, nI_in9, nI_pos9, nI_lt9, nI_le9, nI_eq9, nI_eq09, nI_le09, am_k_m1, if_true, if_false, ite_not, Classical.not_not]
                  rw [if_pos (hb), c_stand _ h' ln hh' hl _ _ _ e3]
                  simp only [Option.bind_some, Option.toList_some, Option.toList_none, List.cons_append, List.nil_append, bi_eq0, bi_eq1, bi_nem, if_true, if_false, ite_not, Classical.not_not, sg11_move_71]
                  rw [if_pos (hr), c_stand _ g' l2 hg' hl2 _ _ _ f3]
                  simp only [Option.bind_some, Option.toList_some, Option.toList_none, List.cons_append, List.nil_append, bi_eq0, bi_eq1, bi_nem, if_true, if_false, ite_not, Classical.not_not]
                  rw [sgu_move _ h' g' hh' hg', if_neg (fun q => ((bi_eq0 _).mp q) hr2)]
                  simp (disch := omega) only [false_or, nle9, nI_dec9, nI_add, pk_mul, pk_sub, nI_clamp, nI_in9, nI_pos9, nI_lt9, nI_le9, nI_eq9, nI_eq09, nI_le09, am_k_m1, if_true, if_false, ite_not, Classical.not_not]
                  rw [if_pos ⟨by omega, not_false, not_false, not_false, by omega, by omega⟩, hM1]
                · rw [ec12_move, m_isSheet]
                  simp only [Option.bind_some, Option.toList_some, Option.toList_none, List.cons_append, List.nil_append, bi_eq0, bi_eq1, bi_nem, if_true, if_false, ite_not, Classical.not_not, sg12_move_4]
                  rw [if_pos (hs), m_isSheet]
                  simp only [Option.bind_some, Option.toList_some, Option.toList_none, List.cons_append, List.nil_append, bi_eq0, bi_eq1, bi_nem, if_true, if_false, ite_not, Classical.not_not, sg12_move_11]
                  rw [if_pos (hs2), hcl, hcg, if_neg (hB), m60, ← e1, if_neg (hm), if_neg (hG), ← f1, if_neg (hm2), if_neg (hB), if_neg (hG), if_pos (hb), m61, ← e2, e3, ← f2, f3, if_move2 _ _ _ ln l2 hl hl2 hB hG, if_pos (⟨hr, hr2⟩)]
                  exact b1.trans b5
                · exact o1 60 (by decide) (by decide) (by decide) (by omega)
                · exact o1 61 (by decide) (by decide) (by decide) (by omega)
                · rw [stc_ne (by omega), b3.1 _ (by simp; omega) (by omega), ← hM1, stc_eq]
                · exact o1 _ (by omega) (by omega) (by omega) (by omega)
                · exact o1 78 (by decide) (by decide) (by decide) (by omega)
                · exact o1 79 (by decide) (by decide) (by decide) (by omega)
              · refine PO_e (k := 1) hI (M1 := M) ?_ Ch_rf ⟨eC M 1, ?_, J6_rf⟩
                · rw [ec11_move, c_isSheet]
                  simp only [Option.bind_some, Option.toList_some, Option.toList_none, List.cons_append, List.nil_append, bi_eq0, bi_eq1, bi_nem, if_true, if_false, ite_not, Classical.not_not, sg11_move_4]
                  rw [if_pos (hs), c_isSheet]
                  simp only [Option.bind_some, Option.toList_some, Option.toList_none, List.cons_append, List.nil_append, bi_eq0, bi_eq1, bi_nem, if_true, if_false, ite_not, Classical.not_not, sg11_move_11]
                  rw [if_pos (hs2), c_isMissing _ h' _ hh']
                  simp only [Option.bind_some, Option.toList_some, Option.toList_none, List.cons_append, List.nil_append, bi_eq0, bi_eq1, bi_nem, if_true, if_false, ite_not, Classical.not_not, sg11_move_25]
                  rw [if_neg (hm), c_isMissing _ g' _ hg']
                  simp only [Option.bind_some, Option.toList_some, Option.toList_none, List.cons_append, List.nil_append, bi_eq0, bi_eq1, bi_nem, if_true, if_false, ite_not, Classical.not_not, sg11_move_33]
                  rw [if_neg (hm2)]
                  simp (disch := omega) only [false_or, nle9, nI_dec9, nI_add, pk_mul, pk_sub, nI_clamp, nI_in9, nI_pos9, nI_lt9, nI_le9, nI_eq9, nI_eq09, nI_le09, am_k_m1, if_true, if_false, ite_not, Classical.not_not]
                  rw [if_pos (hb), c_stand _ h' ln hh' hl _ _ _ e3]
                  simp only [Option.bind_some, Option.toList_some, Option.toList_none, List.cons_append, List.nil_append, bi_eq0, bi_eq1, bi_nem, if_true, if_false, ite_not, Classical.not_not, sg11_move_71]
                  rw [if_pos (hr), c_stand _ g' l2 hg' hl2 _ _ _ f3]
                  simp only [Option.bind_some, Option.toList_some, Option.toList_none, List.cons_append, List.nil_append, bi_eq0, bi_eq1, bi_nem, if_true, if_false, ite_not, Classical.not_not]
                  rw [sgu_move _ h' g' hh' hg', if_pos ((bi_eq0 _).mpr hr2), ce _ 1 _ (by omega)]
                  simp only [Option.bind_some, Option.toList_some, Option.toList_none, List.cons_append, List.nil_append, bi_eq0, bi_eq1, bi_nem, if_true, if_false, ite_not, Classical.not_not, sg11_move_91]
                · rw [ec12_move, m_isSheet]
                  simp only [Option.bind_some, Option.toList_some, Option.toList_none, List.cons_append, List.nil_append, bi_eq0, bi_eq1, bi_nem, if_true, if_false, ite_not, Classical.not_not, sg12_move_4]
                  rw [if_pos (hs), m_isSheet]
                  simp only [Option.bind_some, Option.toList_some, Option.toList_none, List.cons_append, List.nil_append, bi_eq0, bi_eq1, bi_nem, if_true, if_false, ite_not, Classical.not_not, sg12_move_11]
                  rw [if_pos (hs2), hcl, hcg, if_neg (hB), eC_b (by decide), ← e1, if_neg (hm), if_neg (hG), ← f1, if_neg (hm2), if_neg (hB), if_neg (hG), if_pos (hb), eC_b (by decide), ← e2, e3, ← f2, f3, if_move2 _ _ _ ln l2 hl hl2 hB hG, if_neg (fun q => hr2 q.2), me1]
                  simp only [Option.bind_some, Option.toList_some, Option.toList_none, List.cons_append, List.nil_append, bi_eq0, bi_eq1, bi_nem, if_true, if_false, ite_not, Classical.not_not, sg12_move_115]
            · refine PO_e (k := 1) hI (M1 := M) ?_ Ch_rf ⟨eC M 1, ?_, J6_rf⟩
              · rw [ec11_move, c_isSheet]
                simp only [Option.bind_some, Option.toList_some, Option.toList_none, List.cons_append, List.nil_append, bi_eq0, bi_eq1, bi_nem, if_true, if_false, ite_not, Classical.not_not, sg11_move_4]
                rw [if_pos (hs), c_isSheet]
                simp only [Option.bind_some, Option.toList_some, Option.toList_none, List.cons_append, List.nil_append, bi_eq0, bi_eq1, bi_nem, if_true, if_false, ite_not, Classical.not_not, sg11_move_11]
                rw [if_pos (hs2), c_isMissing _ h' _ hh']
                simp only [Option.bind_some, Option.toList_some, Option.toList_none, List.cons_append, List.nil_append, bi_eq0, bi_eq1, bi_nem, if_true, if_false, ite_not, Classical.not_not, sg11_move_25]
                rw [if_neg (hm), c_isMissing _ g' _ hg']
                simp only [Option.bind_some, Option.toList_some, Option.toList_none, List.cons_append, List.nil_append, bi_eq0, bi_eq1, bi_nem, if_true, if_false, ite_not, Classical.not_not, sg11_move_33]
                rw [if_neg (hm2)]
                simp (disch := omega) only [false_or, nle9, nI_dec9, nI_add, pk_mul, pk_sub, nI_clamp, nI_in9, nI_pos9, nI_lt9, nI_le9, nI_eq9, nI_eq09, nI_le09, am_k_m1, if_true, if_false, ite_not, Classical.not_not]
                rw [if_pos (hb), c_stand _ h' ln hh' hl _ _ _ e3]
                simp only [Option.bind_some, Option.toList_some, Option.toList_none, List.cons_append, List.nil_append, bi_eq0, bi_eq1, bi_nem, if_true, if_false, ite_not, Classical.not_not, sg11_move_71]
                rw [if_neg (hr), ce _ 1 _ (by omega)]
                simp only [Option.bind_some, Option.toList_some, Option.toList_none, List.cons_append, List.nil_append, bi_eq0, bi_eq1, bi_nem, if_true, if_false, ite_not, Classical.not_not, sg11_move_91]
              · rw [ec12_move, m_isSheet]
                simp only [Option.bind_some, Option.toList_some, Option.toList_none, List.cons_append, List.nil_append, bi_eq0, bi_eq1, bi_nem, if_true, if_false, ite_not, Classical.not_not, sg12_move_4]
                rw [if_pos (hs), m_isSheet]
                simp only [Option.bind_some, Option.toList_some, Option.toList_none, List.cons_append, List.nil_append, bi_eq0, bi_eq1, bi_nem, if_true, if_false, ite_not, Classical.not_not, sg12_move_11]
                rw [if_pos (hs2), hcl, hcg, if_neg (hB), eC_b (by decide), ← e1, if_neg (hm), if_neg (hG), ← f1, if_neg (hm2), if_neg (hB), if_neg (hG), if_pos (hb), eC_b (by decide), ← e2, e3, ← f2, f3, if_move2 _ _ _ ln l2 hl hl2 hB hG, if_neg (fun q => hr q.1), me1]
                simp only [Option.bind_some, Option.toList_some, Option.toList_none, List.cons_append, List.nil_append, bi_eq0, bi_eq1, bi_nem, if_true, if_false, ite_not, Classical.not_not, sg12_move_115]
          · refine PO_e (k := 5) hI (M1 := M) ?_ Ch_rf ⟨eC M 5, ?_, J6_rf⟩
            · rw [ec11_move, c_isSheet]
              simp only [Option.bind_some, Option.toList_some, Option.toList_none, List.cons_append, List.nil_append, bi_eq0, bi_eq1, bi_nem, if_true, if_false, ite_not, Classical.not_not, sg11_move_4]
              rw [if_pos (hs), c_isSheet]
              simp only [Option.bind_some, Option.toList_some, Option.toList_none, List.cons_append, List.nil_append, bi_eq0, bi_eq1, bi_nem, if_true, if_false, ite_not, Classical.not_not, sg11_move_11]
              rw [if_pos (hs2), c_isMissing _ h' _ hh']
              simp only [Option.bind_some, Option.toList_some, Option.toList_none, List.cons_append, List.nil_append, bi_eq0, bi_eq1, bi_nem, if_true, if_false, ite_not, Classical.not_not, sg11_move_25]
              rw [if_neg (hm), c_isMissing _ g' _ hg']
              simp only [Option.bind_some, Option.toList_some, Option.toList_none, List.cons_append, List.nil_append, bi_eq0, bi_eq1, bi_nem, if_true, if_false, ite_not, Classical.not_not, sg11_move_33]
              rw [if_neg (hm2)]
              simp (disch := omega) only [false_or, nle9, nI_dec9, nI_add, pk_mul, pk_sub, nI_clamp, nI_in9, nI_pos9, nI_lt9, nI_le9, nI_eq9, nI_eq09, nI_le09, am_k_m1, if_true, if_false, ite_not, Classical.not_not]
              rw [if_neg (hb), ce _ 5 _ (by omega)]
              simp only [Option.bind_some, Option.toList_some, Option.toList_none, List.cons_append, List.nil_append, bi_eq0, bi_eq1, bi_nem, if_true, if_false, ite_not, Classical.not_not, sg11_move_62]
            · rw [ec12_move, m_isSheet]
              simp only [Option.bind_some, Option.toList_some, Option.toList_none, List.cons_append, List.nil_append, bi_eq0, bi_eq1, bi_nem, if_true, if_false, ite_not, Classical.not_not, sg12_move_4]
              rw [if_pos (hs), m_isSheet]
              simp only [Option.bind_some, Option.toList_some, Option.toList_none, List.cons_append, List.nil_append, bi_eq0, bi_eq1, bi_nem, if_true, if_false, ite_not, Classical.not_not, sg12_move_11]
              rw [if_pos (hs2), hcl, hcg, if_neg (hB), eC_b (by decide), ← e1, if_neg (hm), if_neg (hG), ← f1, if_neg (hm2), if_neg (hB), if_neg (hG), if_neg (hb), me5]
              simp only [Option.bind_some, Option.toList_some, Option.toList_none, List.cons_append, List.nil_append, bi_eq0, bi_eq1, bi_nem, if_true, if_false, ite_not, Classical.not_not, sg12_move_67]
    · refine PO_e (k := 1) hI (M1 := M) ?_ Ch_rf ⟨eC M 1, ?_, J6_rf⟩
      · rw [ec11_move, c_isSheet]
        simp only [Option.bind_some, Option.toList_some, Option.toList_none, List.cons_append, List.nil_append, bi_eq0, bi_eq1, bi_nem, if_true, if_false, ite_not, Classical.not_not, sg11_move_4]
        rw [if_pos (hs), c_isSheet]
        simp only [Option.bind_some, Option.toList_some, Option.toList_none, List.cons_append, List.nil_append, bi_eq0, bi_eq1, bi_nem, if_true, if_false, ite_not, Classical.not_not, sg11_move_11]
        rw [if_neg (hs2), ce _ 1 _ (by omega)]
        simp only [Option.bind_some, Option.toList_some, Option.toList_none, List.cons_append, List.nil_append, bi_eq0, bi_eq1, bi_nem, if_true, if_false, ite_not, Classical.not_not, sg11_move_19]
      · rw [ec12_move, m_isSheet]
        simp only [Option.bind_some, Option.toList_some, Option.toList_none, List.cons_append, List.nil_append, bi_eq0, bi_eq1, bi_nem, if_true, if_false, ite_not, Classical.not_not, sg12_move_4]
        rw [if_pos (hs), m_isSheet]
        simp only [Option.bind_some, Option.toList_some, Option.toList_none, List.cons_append, List.nil_append, bi_eq0, bi_eq1, bi_nem, if_true, if_false, ite_not, Classical.not_not, sg12_move_11]
        rw [if_neg (hs2), me1]
        simp only [Option.bind_some, Option.toList_some, Option.toList_none, List.cons_append, List.nil_append, bi_eq0, bi_eq1, bi_nem, if_true, if_false, ite_not, Classical.not_not, sg12_move_20]
  · refine PO_e (k := 1) hI (M1 := M) ?_ Ch_rf ⟨eC M 1, ?_, J6_rf⟩
    · rw [ec11_move, c_isSheet]
      simp only [Option.bind_some, Option.toList_some, Option.toList_none, List.cons_append, List.nil_append, bi_eq0, bi_eq1, bi_nem, if_true, if_false, ite_not, Classical.not_not, sg11_move_4]
      rw [if_neg (hs), ce _ 1 _ (by omega)]
      simp only [Option.bind_some, Option.toList_some, Option.toList_none, List.cons_append, List.nil_append, bi_eq0, bi_eq1, bi_nem, if_true, if_false, ite_not, Classical.not_not, sg11_move_19]
    · rw [ec12_move, m_isSheet]
      simp only [Option.bind_some, Option.toList_some, Option.toList_none, List.cons_append, List.nil_append, bi_eq0, bi_eq1, bi_nem, if_true, if_false, ite_not, Classical.not_not, sg12_move_4]
      rw [if_neg (hs), me1]
      simp only [Option.bind_some, Option.toList_some, Option.toList_none, List.cons_append, List.nil_append, bi_eq0, bi_eq1, bi_nem, if_true, if_false, ite_not, Classical.not_not, sg12_move_20]
