/-! TEXTS: what the reference reads and works out -/
def eV (x y z : Int32) : Nat → Int32 := fun k => if k = 1 then x else if k = 2 then y else z
def tI (M : am_M) (fs n use : Nat) (x y z : Int32) : am_M := am_setc M 68 (fun j => if j = 5 then nI fs else if j = 6 then nI n else if j = 9 then nI use else if j = 10 then x else if j = 11 then y else if j = 12 then z else M 68 j)
theorem tI_prs (M : am_M) (fs n use : Nat) (x y z : Int32) : am_up (am_up (am_up (am_up (am_up (am_up (am_up (am_up (am_up M 68 5 (nI fs)) 68 6 (nI n)) 68 7 (nI 0)) 68 8 (nI 0)) 68 9 (nI use)) 68 10 x) 68 11 y) 68 12 z) 68 13 (nI 0) = prs (tI M fs n use x y z) 0 0 false := by
  have e : ∀ i v, am_up M 68 i v = am_setc M 68 (upd (M 68) i v) := fun _ _ => rfl
  rw [e]
  simp only [up_sc]
  unfold prs tI
  rw [stc_sc, stc_eq]
  congr 1
  funext j
  unfold upd
  simp only [cond_false]
  by_cases h13 : j = 13
  · simp [h13]
  · by_cases h12 : j = 12
    · simp [h12]
    · by_cases h11 : j = 11
      · simp [h11]
      · by_cases h10 : j = 10
        · simp [h10]
        · by_cases h9 : j = 9
          · simp [h9]
          · by_cases h8 : j = 8
            · simp [h8]
            · by_cases h7 : j = 7
              · simp [h7]
              · by_cases h6 : j = 6
                · simp [h6]
                · simp [h13, h12, h11, h10, h9, h8, h7, h6]
/-- the text of n bytes from fs on -/
def rdR (b : Nat → Int32) (n use : Nat) (x y z : Int32) : rd_T := rd b n use (eV x y z) (16 * n + 20) 1 none 0 0 false
theorem tI_C (M : am_M) (fs n use : Nat) (x y z : Int32) (b : Nat → Int32) (h : fs + n ≤ 237) (hu : use ≤ 1) (hb : ∀ i, i < n → M 69 (fs + i) = b i) : prC (tI M fs n use x y z) b fs n use (eV x y z) := by
  unfold prC tI
  simp only [stc_eq]
  refine ⟨rfl, rfl, h, rfl, hu, rfl, rfl, rfl, fun i hi => ?_⟩
  rw [stc_ne (by decide)]
  exact hb i hi
theorem m_readsText (d : Nat) (M : am_M) (fs n use : Nat) (x y z : Int32) (b : Nat → Int32) (h : fs + n ≤ 237) (hu : use ≤ 1) (hb : ∀ i, i < n → M 69 (fs + i) = b i) : am_call (d + 39) i12_readsText [.ref 68, .int (nI fs), .int (nI n), .int (nI use), .int x, .int y, .int z] M = some (some (.int (rdR b n use x y z).1.1), prs (tI M fs n use x y z) (rdR b n use x y z).2.1 0 ((rdR b n use x y z).2.2 || decide ((rdR b n use x y z).2.1 < n))) := by
  have hC := tI_C M fs n use x y z b h hu hb
  obtain ⟨A6, A5, A4, A3, A2, A1, -⟩ := t_all hC (16 * n + 20)
  have hA := A1 d 5 0 0 false rfl (Nat.zero_le _) (by omega)
  have hle := rd_le b n use (eV x y z) (16 * n + 20) 1 none 0 0 false
  rw [ec12_readsText, tI_prs, show d + 38 = d + 6 * 5 + 8 by omega, hA]
  change _ = some (some (Value.int (rd b n use (eV x y z) (16 * n + 20) 1 none 0 0 false).1.1), prs _ (rd b n use (eV x y z) (16 * n + 20) 1 none 0 0 false).2.1 0 ((rd b n use (eV x y z) (16 * n + 20) 1 none 0 0 false).2.2 || decide ((rd b n use (eV x y z) (16 * n + 20) 1 none 0 0 false).2.1 < n)))
  generalize rd b n use (eV x y z) (16 * n + 20) 1 none 0 0 false = r at hle ⊢
  simp only [Option.bind_some, Option.toList_some, Option.toList_none, List.cons_append, List.nil_append, bi_eq0, bi_eq1, bi_nem, if_true, if_false, ite_not, Classical.not_not, sg12_readsText_52]
  have hle2 := hle.2 (Nat.zero_le _)
  rw [prs_13, prs_7, prs_o (j := 6) (by decide), hC.2.1]
  simp only [nI_lt9 (show r.2.1 < 2147483648 by omega) (show n < 2147483648 by omega)]
  obtain ⟨rv, ra, rw'⟩ := r
  dsimp only
  cases rw' with
  | true => rw [if_neg (by decide), prs_t]; rfl
  | false =>
    rw [if_pos (by decide)]
    by_cases c : ra < n
    · rw [if_pos c, prs_t, decide_eq_true c]; rfl
    · rw [if_neg c, prs_f, decide_eq_false c]; rfl
/-- nothing but the reader's own fields differs -/
def J68 (M M' : am_M) : Prop := (∀ a, a ≠ 68 → M' a = M a) ∧ ∀ j, (j < 5 ∨ 13 < j) → M' 68 j = M 68 j
theorem J68_rf {M : am_M} : J68 M M := ⟨fun _ _ => Eq.refl _, fun _ _ => Eq.refl _⟩
theorem J68_tr {M M1 M2 : am_M} (h : J68 M M1) (h2 : J68 M1 M2) : J68 M M2 := ⟨fun a ha => (h2.1 a ha).trans (h.1 a ha), fun j hj => (h2.2 j hj).trans (h.2 j hj)⟩
theorem J68_prs (M : am_M) (fs n use : Nat) (x y z : Int32) (a o : Nat) (w : Bool) : J68 M (prs (tI M fs n use x y z) a o w) := by
  refine ⟨fun c hc => ?_, fun j hj => ?_⟩
  · rw [prs_c hc]
    unfold tI
    rw [stc_ne hc]
  · rw [prs_o (by omega)]
    unfold tI
    rw [stc_eq]
    simp only [show j ≠ 5 by omega, show j ≠ 6 by omega, show j ≠ 9 by omega, show j ≠ 10 by omega, show j ≠ 11 by omega, show j ≠ 12 by omega, if_false]
/-- the worth of the text of a use -/
def txV (S : Nat → Int32) (use : Nat) (x y z : Int32) : Int32 := (rdR (fun i => S (117 + 50 * use + i)) (S (65 + use)).toNatClampNeg use x y z).1.1
def txK (S : Nat → Int32) (use : Nat) : Prop := S (65 + use) = -1 ∨ ∃ n, n ≤ 50 ∧ S (65 + use) = nI n
def hd99 (x : Int32) : Int32 := if x < nI 0 then nI 0 else if x ≤ nI 99 then x else nI 99
def mgS (S : Nat → Int32) (x y z : Int32) : Int32 := hd99 (if S 65 < 0 then (x + y + z) / nI 3 else txV S 0 x y z)
def snS (S : Nat → Int32) (x y z : Int32) : Int32 := if S 66 < 0 then (if x < y then nI 1 else nI 0) else txV S 1 x y z
theorem m_worked (d : Nat) (M : am_M) (n use : Nat) (x y z : Int32) (hu : use ≤ 1) (hn : n ≤ 50) (h : M 69 (65 + use) = nI n) : ∃ M', am_call (d + 40) i12_worked [.ref 68, .int (nI use), .int x, .int y, .int z] M = some (some (.int (txV (M 69) use x y z)), M') ∧ J68 M M' := by
  refine ⟨prs (tI M (117 + 50 * use) n use x y z) (rdR (fun i => M 69 (117 + 50 * use + i)) n use x y z).2.1 0 ((rdR (fun i => M 69 (117 + 50 * use + i)) n use x y z).2.2 || decide ((rdR (fun i => M 69 (117 + 50 * use + i)) n use x y z).2.1 < n)), ?_, J68_prs M (117 + 50 * use) n use x y z _ 0 _⟩
  rw [ec12_worked]
  simp (disch := omega) only [false_or, nle9, nI_dec9, nI_add, pk_mul, pk_sub, nI_clamp, nI_in9, nI_pos9, nI_lt9, nI_le9, nI_eq9, nI_eq09, nI_le09, am_k_m1, if_true, if_false, ite_not, Classical.not_not]
  rw [h, m_readsText d M (117 + 50 * use) n use x y z (fun i => M 69 (117 + 50 * use + i)) (by omega) hu (fun _ _ => rfl)]
  simp only [Option.bind_some, Option.toList_some, Option.toList_none, List.cons_append, List.nil_append, bi_eq0, bi_eq1, bi_nem, if_true, if_false, ite_not, Classical.not_not, sg12_worked_25]
  unfold txV
  rw [h, nI_clamp (by omega)]
theorem m_merged (d : Nat) (M : am_M) (x y z : Int32) (h : txK (M 69) 0) : ∃ M', am_call (d + 41) i12_merged [.ref 68, .int x, .int y, .int z] M = some (some (.int (mgS (M 69) x y z)), M') ∧ J68 M M' := by
  rcases h with h | ⟨n, hn, h⟩
  · refine ⟨M, ?_, J68_rf⟩
    change M 69 65 = -1 at h
    have hneg : M 69 65 < 0 := by rw [h]; decide +kernel
    rw [ec12_merged, if_pos hneg]
    simp only [sg12_merged_28]
    rw [show d + 40 = d + 39 + 1 by omega, m_held]
    simp only [Option.bind_some, Option.toList_some, Option.toList_none, List.cons_append, List.nil_append, bi_eq0, bi_eq1, bi_nem, if_true, if_false, ite_not, Classical.not_not, sg12_merged_34]
    unfold mgS hd99
    simp only [if_pos hneg]
  · obtain ⟨M', h1, h2⟩ := m_worked d M n 0 x y z (by omega) hn h
    refine ⟨M', ?_, h2⟩
    change M 69 65 = nI n at h
    have hneg : ¬ M 69 65 < 0 := by rw [h]; exact nI_pos (by omega)
    rw [ec12_merged, if_neg hneg, h1]
    simp only [Option.bind_some, Option.toList_some, Option.toList_none, List.cons_append, List.nil_append, bi_eq0, bi_eq1, bi_nem, if_true, if_false, ite_not, Classical.not_not, sg12_merged_28]
    rw [show d + 40 = d + 39 + 1 by omega, m_held]
    simp only [Option.bind_some, Option.toList_some, Option.toList_none, List.cons_append, List.nil_append, bi_eq0, bi_eq1, bi_nem, if_true, if_false, ite_not, Classical.not_not, sg12_merged_34]
    unfold mgS hd99
    rw [if_neg hneg]
theorem m_senses (d : Nat) (M : am_M) (x y z : Int32) (h : txK (M 69) 1) : ∃ M', am_call (d + 41) i12_senses [.ref 68, .int x, .int y, .int z] M = some (some (.int (snS (M 69) x y z)), M') ∧ J68 M M' := by
  rcases h with h | ⟨n, hn, h⟩
  · refine ⟨M, ?_, J68_rf⟩
    change M 69 66 = -1 at h
    have hneg : M 69 66 < 0 := by rw [h]; decide +kernel
    rw [ec12_senses, if_pos hneg]
    simp only [sg12_senses_31]
    unfold snS
    simp only [if_pos hneg]
    by_cases c : x < y
    · rw [if_pos c, if_pos c]
    · rw [if_neg c, if_neg c]
  · obtain ⟨M', h1, h2⟩ := m_worked d M n 1 x y z (by omega) hn h
    refine ⟨M', ?_, h2⟩
    change M 69 66 = nI n at h
    have hneg : ¬ M 69 66 < 0 := by rw [h]; exact nI_pos (by omega)
    rw [ec12_senses, if_neg hneg, h1]
    simp only [Option.bind_some, Option.toList_some, Option.toList_none, List.cons_append, List.nil_append, bi_eq0, bi_eq1, bi_nem, if_true, if_false, ite_not, Classical.not_not, sg12_senses_31]
    unfold snS
    rw [if_neg hneg]
