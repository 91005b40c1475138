/-! what a call changes of the shelf -/
def SL : List Nat := [9, 10, 11, 12, 13, 14, 30, 31, 32, 33, 34, 37, 38, 69, 15, 22, 23, 24, 25, 26, 27, 28, 29, 35, 36, 39, 40, 46, 47, 50, 51, 52, 53, 54, 55, 56, 57, 71, 73, 74, 75, 76, 81]
theorem Ch_J6 {L : List Nat} {M M' : am_M} (h : Ch L M M') (h68 : 68 ∉ L) : J6 L M M' := ⟨fun a ha _ => h a ha, fun j _ => by rw [h 68 h68]⟩
theorem J6_c {L : List Nat} {M M' : am_M} (h : J6 L M M') {a : Nat} (ha : a ∉ L) (h68 : a ≠ 68) : M' a = M a := h.1 a ha h68
theorem IV_S {L : List Nat} {M M2 : am_M} (hI : IV M M) (hJ : J6 L M M2) (hL : ∀ a ∈ L, a ∈ SL) (hRA : RA M2 9 30 (M2 69)) : IV M2 M2 := by
  obtain ⟨h1, h2, h3, h4, h5, h6⟩ := hI
  have f : ∀ a, a ∉ SL → a ≠ 68 → M2 a = M a := fun a ha hb => hJ.1 a (fun q => ha (hL a q)) hb
  refine ⟨hRA, ?_, ?_, ?_, ?_, fun h hh => ?_⟩
  · rw [f 0 (by decide) (by decide), hJ.2 4 (by omega)]; exact h2
  · rw [f 0 (by decide) (by decide), f 70 (by decide) (by decide)]
    exact h3.imp id (fun z => RA_ch z (fun a ha => f a (by revert a; decide) (by revert a; decide)))
  · rw [f 67 (by decide) (by decide), f 72 (by decide) (by decide)]; exact h4
  · unfold SP
    rw [f 58 (by decide) (by decide), f 59 (by decide) (by decide), f 77 (by decide) (by decide), hJ.2 19 (by omega)]; exact h5
  · have hm : ∀ h, h < 4 → 63 + h ∉ SL ∧ 63 + h ≠ 68 := by decide
    rw [f 60 (by decide) (by decide), f 61 (by decide) (by decide), f (63 + h) (hm h hh).1 (hm h hh).2, f 78 (by decide) (by decide), f 79 (by decide) (by decide), f 80 (by decide) (by decide)]
    exact h6 h hh
theorem RD_S {M M' : am_M} {dk : Nat} {S S' : Nat → Int32} (h : RD M dk S) (hS : ∀ j, 62 ≤ j → S' j = S j) (hc : ∀ a ∈ [dk, dk + 1, dk + 2, dk + 3, dk + 4, dk + 7, dk + 8], M' a = M a) : RD M' dk S' := by
  obtain ⟨r1, r2, r3, r4, r5, r6, r7, r8, r9⟩ := h
  unfold RD
  rw [hc dk (by simp), hc (dk + 1) (by simp), hc (dk + 2) (by simp), hc (dk + 3) (by simp), hc (dk + 4) (by simp), hc (dk + 7) (by simp), hc (dk + 8) (by simp), hS 63 (by omega), hS 62 (by omega), hS 64 (by omega)]
  exact ⟨r1, r2, fun i hi => by rw [hS _ (by omega)]; exact r3 i hi, r4, r5, r6, fun i hi => by rw [hS _ (by omega)]; exact r7 i hi, TR_S (by omega) r8 hS, TR_S (by omega) r9 hS⟩
theorem au_69 {M : am_M} {k : Nat} {x : Int32} : am_up M 69 k x 69 = upd (M 69) k x := stc_eq
theorem au_a {M : am_M} {a k : Nat} {x : Int32} : am_up M a k x a = upd (M a) k x := stc_eq
theorem PR_congr {r s : Nat → Int32} {n : Nat} (h : PR r n) (e : ∀ i, i < n → s i = r i) : PR s n := by
  obtain ⟨p1, p2, p3⟩ := h
  refine ⟨fun i hi => by rw [e i hi]; exact p1 i hi, fun b hb => ?_, fun i j hi hj hij => p3 i j hi hj (by rw [← e i hi, ← e j hj]; exact hij)⟩
  obtain ⟨i, hi, z⟩ := p2 b hb
  exact ⟨i, hi, by rw [e i hi]; exact z⟩
theorem WS_upd {S : Nat → Int32} {nb ng b w : Nat} {x : Int32} (h : WS S nb ng) (hb : b < nb) (hw : w < 9) (h0 : w = 0 → ∃ k, k ≤ 6 ∧ x = nI k) (h1 : w = 1 → ∃ m, m ≤ 9 ∧ x = nI m) (h2 : w = 2 → x = nI 0 ∨ x = nI 1) (h3 : 3 ≤ w → ∃ v, v ≤ 99 ∧ x = nI v) : WS (upd S (2 + 9 * b + w) x) nb ng := by
  have hn := h.2.1
  refine ⟨by rw [upd_ne (by omega)]; exact h.1, hn, by rw [upd_ne (by omega)]; exact h.2.2.1, fun c hc => ⟨?_, ?_, ?_, fun p hp => ?_⟩, PR_congr h.2.2.2.2 (fun i hi => upd_ne (by omega))⟩
  · by_cases e : 2 + 9 * c = 2 + 9 * b + w
    · rw [e, upd_eq]; exact h0 (by omega)
    · rw [upd_ne e]; exact (h.2.2.2.1 c hc).1
  · by_cases e : 2 + 9 * c + 1 = 2 + 9 * b + w
    · rw [e, upd_eq]; exact h1 (by omega)
    · rw [upd_ne e]; exact (h.2.2.2.1 c hc).2.1
  · by_cases e : 2 + 9 * c + 2 = 2 + 9 * b + w
    · rw [e, upd_eq]; exact h2 (by omega)
    · rw [upd_ne e]; exact (h.2.2.2.1 c hc).2.2.1
  · by_cases e : 2 + 9 * c + (3 + p) = 2 + 9 * b + w
    · rw [e, upd_eq]; exact h3 (by omega)
    · rw [upd_ne e]; exact (h.2.2.2.1 c hc).2.2.2 p hp
theorem RS_pg {M M' : am_M} {S : Nat → Int32} {nb b p : Nat} {x : Int32} (h : RS M 9 S nb) (hn : nb ≤ 6) (hb : b < nb) (hp : p < 6) (hc : M' 9 = M 9 ∧ M' 10 = M 10 ∧ M' 11 = M 11 ∧ M' 12 = M 12 ∧ M' 14 = M 14) (h13 : M' 13 = upd (M 13) (b * 6 + p) x) : RS M' 9 (upd S (2 + 9 * b + (3 + p)) x) nb := by
  obtain ⟨c0, c1, c2, c3, c5⟩ := hc
  obtain ⟨r1, r2, r3, r4, r5⟩ := h
  refine ⟨by rw [c0, upd_ne (by omega)]; exact r1, by rw [c0, upd_ne (by omega)]; exact r2, fun c hcb => ⟨by rw [c1, upd_ne (by omega)]; exact (r3 c hcb).1, by rw [c2, upd_ne (by omega)]; exact (r3 c hcb).2.1, by rw [c3, upd_ne (by omega)]; exact (r3 c hcb).2.2.1, fun q hq => ?_⟩, fun i hi => by rw [c5, upd_ne (by omega)]; exact r4 i hi, fun c h h6 => by show M' 12 c = _; rw [c3]; exact r5.1 c h h6, fun c h h6 q hq => by show M' 13 _ = _; rw [h13, upd_ne (by omega)]; exact r5.2 c h h6 q hq⟩
  show M' 13 _ = _
  rw [h13]
  by_cases e : c = b ∧ q = p
  · obtain ⟨rfl, rfl⟩ := e
    rw [upd_eq, upd_eq]
  · rw [upd_ne (by omega), upd_ne (by omega)]
    exact (r3 c hcb).2.2.2 q hq
theorem RS_km {M M' : am_M} {S : Nat → Int32} {nb b : Nat} {x y : Int32} (h : RS M 9 S nb) (hn : nb ≤ 6) (hb : b < nb) (hc : M' 9 = M 9 ∧ M' 12 = M 12 ∧ M' 13 = M 13 ∧ M' 14 = M 14) (h10 : M' 10 = upd (M 10) b x) (h11 : M' 11 = upd (M 11) b y) : RS M' 9 (upd (upd S (2 + 9 * b + 1) y) (2 + 9 * b + 0) x) nb := by
  obtain ⟨c0, c3, c4, c5⟩ := hc
  obtain ⟨r1, r2, r3, r4, r5⟩ := h
  refine ⟨by rw [c0, upd_ne (by omega), upd_ne (by omega)]; exact r1, by rw [c0, upd_ne (by omega), upd_ne (by omega)]; exact r2, fun c hcb => ⟨?_, ?_, by rw [c3, upd_ne (by omega), upd_ne (by omega)]; exact (r3 c hcb).2.2.1, fun q hq => by rw [c4, upd_ne (by omega), upd_ne (by omega)]; exact (r3 c hcb).2.2.2 q hq⟩, fun i hi => by rw [c5, upd_ne (by omega), upd_ne (by omega)]; exact r4 i hi, RZ_c r5 c3 c4⟩
  · show M' 10 c = _
    rw [h10]
    by_cases e : c = b
    · subst e
      rw [upd_eq]
      show x = upd _ (2 + 9 * c + 0) x (2 + 9 * c + 0)
      rw [upd_eq]
    · rw [upd_ne e, upd_ne (by omega), upd_ne (by omega)]; exact (r3 c hcb).1
  · show M' 11 c = _
    rw [h11]
    by_cases e : c = b
    · subst e; rw [upd_eq, upd_ne (by omega), upd_eq]
    · rw [upd_ne e, upd_ne (by omega), upd_ne (by omega)]; exact (r3 c hcb).2.1
theorem RS_gl {M M' : am_M} {S : Nat → Int32} {nb b : Nat} {x : Int32} (h : RS M 9 S nb) (hn : nb ≤ 6) (hb : b < nb) (hc : M' 9 = M 9 ∧ M' 10 = M 10 ∧ M' 11 = M 11 ∧ M' 13 = M 13 ∧ M' 14 = M 14) (h12 : M' 12 = upd (M 12) b x) : RS M' 9 (upd S (2 + 9 * b + 2) x) nb := by
  obtain ⟨c0, c1, c2, c4, c5⟩ := hc
  obtain ⟨r1, r2, r3, r4, r5⟩ := h
  refine ⟨by rw [c0, upd_ne (by omega)]; exact r1, by rw [c0, upd_ne (by omega)]; exact r2, fun c hcb => ⟨by rw [c1, upd_ne (by omega)]; exact (r3 c hcb).1, by rw [c2, upd_ne (by omega)]; exact (r3 c hcb).2.1, ?_, fun q hq => by rw [c4, upd_ne (by omega)]; exact (r3 c hcb).2.2.2 q hq⟩, fun i hi => by rw [c5, upd_ne (by omega)]; exact r4 i hi, fun c h h6 => by show M' 12 c = _; rw [h12, upd_ne (by omega)]; exact r5.1 c h h6, fun c h h6 q hq => by show M' 13 _ = _; rw [c4]; exact r5.2 c h h6 q hq⟩
  show M' 12 c = _
  rw [h12]
  by_cases e : c = b
  · subst e; rw [upd_eq, upd_eq]
  · rw [upd_ne e, upd_ne (by omega)]; exact (r3 c hcb).2.2.1
/-- a row with one book gone elsewhere -/
theorem PR_mvr {r : Nat → Int32} {n f p : Nat} (h : PR r n) (hf : f < n) (hp : p < n) : PR (mvr r f p) n := by
  have e : ∀ i, mvr r f p i = r (if i = p then f else if f ≤ i ∧ i < p then i + 1 else if p < i ∧ i ≤ f then i - 1 else i) := by
    intro i
    unfold mvr
    by_cases c1 : i = p
    · rw [if_pos c1, if_pos c1]
    · rw [if_neg c1, if_neg c1]
      by_cases c2 : f ≤ i ∧ i < p
      · rw [if_pos c2, if_pos c2]
      · rw [if_neg c2, if_neg c2]
        by_cases c3 : p < i ∧ i ≤ f
        · rw [if_pos c3, if_pos c3]
        · rw [if_neg c3, if_neg c3]
  have hlt : ∀ i, i < n → (if i = p then f else if f ≤ i ∧ i < p then i + 1 else if p < i ∧ i ≤ f then i - 1 else i) < n := by
    intro i hi
    (repeat' split) <;> omega
  obtain ⟨p1, p2, p3⟩ := h
  refine ⟨fun i hi => by rw [e]; exact p1 _ (hlt i hi), fun b hb => ?_, fun i j hi hj hij => ?_⟩
  · obtain ⟨i, hi, z⟩ := p2 b hb
    refine ⟨if i = f then p else if f < i ∧ i ≤ p then i - 1 else if p ≤ i ∧ i < f then i + 1 else i, ?_, ?_⟩
    · (repeat' split) <;> omega
    · rw [e, ← z]
      congr 1
      by_cases c1 : i = f
      · rw [if_pos c1, if_pos rfl, c1]
      · rw [if_neg c1]
        by_cases c2 : f < i ∧ i ≤ p
        · rw [if_pos c2, if_neg (by omega), if_pos (by omega)]; omega
        · rw [if_neg c2]
          by_cases c3 : p ≤ i ∧ i < f
          · rw [if_pos c3, if_neg (by omega), if_neg (by omega), if_pos (by omega)]; omega
          · rw [if_neg c3, if_neg (by omega), if_neg (by omega), if_neg (by omega)]
  · rw [e, e] at hij
    have := p3 _ _ (hlt i hi) (hlt j hj) hij
    revert this
    (repeat' split) <;> intro this <;> omega
theorem WS_row2 {S : Nat → Int32} {nb ng : Nat} {g : Nat → Int32} (h : WS S nb ng) (hg : PR g nb) : WS (rowU S nb g) nb ng := by
  have hn := h.2.1
  refine ⟨by rw [rowU_lo (by omega)]; exact h.1, hn, by rw [rowU_lo (by omega)]; exact h.2.2.1, fun b hb => ?_, PR_congr hg (fun i hi => rowU_at hi)⟩
  rw [rowU_lo (by omega), rowU_lo (by omega), rowU_lo (by omega)]
  obtain ⟨a1, a2, a3, a4⟩ := h.2.2.2.1 b hb
  exact ⟨a1, a2, a3, fun p hp => by rw [rowU_lo (by omega)]; exact a4 p hp⟩
theorem rowU_hi {S : Nat → Int32} {n : Nat} {g : Nat → Int32} {j : Nat} (h : 56 + n ≤ j) : rowU S n g j = S j := if_neg (by omega)
theorem RS_row {M M' : am_M} {t : Nat} {S : Nat → Int32} {nb : Nat} {g : Nat → Int32} (h : RS M t S nb) (hn : nb ≤ 6) (hc : M' t = M t ∧ M' (t + 1) = M (t + 1) ∧ M' (t + 2) = M (t + 2) ∧ M' (t + 3) = M (t + 3) ∧ M' (t + 4) = M (t + 4)) (h5 : ∀ i, i < nb → M' (t + 5) i = g i) : RS M' t (rowU S nb g) nb := by
  obtain ⟨c0, c1, c2, c3, c4⟩ := hc
  obtain ⟨r1, r2, r3, r4, r5⟩ := h
  refine ⟨by rw [c0, rowU_lo (by omega)]; exact r1, by rw [c0, rowU_lo (by omega)]; exact r2, fun c hcb => ⟨by rw [c1, rowU_lo (by omega)]; exact (r3 c hcb).1, by rw [c2, rowU_lo (by omega)]; exact (r3 c hcb).2.1, by rw [c3, rowU_lo (by omega)]; exact (r3 c hcb).2.2.1, fun q hq => by rw [c4, rowU_lo (by omega)]; exact (r3 c hcb).2.2.2 q hq⟩, fun i hi => by rw [rowU_at hi]; exact h5 i hi, RZ_c r5 c3 c4⟩
/-- where a book stands -/
theorem WS_pl {S : Nat → Int32} {nb ng b : Nat} (h : WS S nb ng) (hb : b < nb) : ∃ i, i < nb ∧ S (56 + i) = nI b ∧ ∀ j, j < i → S (56 + j) ≠ nI b := by
  obtain ⟨i, hi, z⟩ := h.2.2.2.2.2.1 b hb
  refine ⟨i, hi, z, fun j hj q => ?_⟩
  have := h.2.2.2.2.2.2 j i (by omega) hi (by show S (56 + j) = S (56 + i); rw [q]; exact z.symm)
  omega
theorem RS_mv {M M' : am_M} {t : Nat} {S : Nat → Int32} {nb f p : Nat} (h : RS M t S nb) (hn : nb ≤ 6) (hf : f < nb) (hp : p < nb) (hc : M' t = M t ∧ M' (t + 1) = M (t + 1) ∧ M' (t + 2) = M (t + 2) ∧ M' (t + 3) = M (t + 3) ∧ M' (t + 4) = M (t + 4)) (h5 : M' (t + 5) = mvr (M (t + 5)) f p) : RS M' t (rowU S nb (mvr (fun i => S (56 + i)) f p)) nb :=
  RS_row h hn hc (fun i hi => by
    rw [h5]
    have r4 := h.2.2.2.1
    unfold mvr
    by_cases c1 : i = p
    · rw [if_pos c1, if_pos c1]; exact r4 f hf
    · rw [if_neg c1, if_neg c1]
      by_cases c2 : f ≤ i ∧ i < p
      · rw [if_pos c2, if_pos c2]; exact r4 (i + 1) (by omega)
      · rw [if_neg c2, if_neg c2]
        by_cases c3 : p < i ∧ i ≤ f
        · rw [if_pos c3, if_pos c3]; exact r4 (i - 1) (by omega)
        · rw [if_neg c3, if_neg c3]; exact r4 i hi)
