/-! the whole state of both sides: what holds between the class's cells (in M) and the reference's (in N) -/
def RA (M : am_M) (t dk : Nat) (S : Nat → Int32) : Prop := ∃ nb ng, WS S nb ng ∧ ng ≤ 9999 ∧ RS M t S nb ∧ RD M dk S
def sd (x : Int32) : Prop := 0 ≤ x.toInt ∧ x.toInt < 100
def SV (x y : Int32) : Prop := x = y ∨ (¬ sd x ∧ ¬ sd y)
def SH (M N : am_M) : Prop := ∀ h, h < 4 → M 60 h = N 78 h ∧ M 61 h = N 79 h ∧ ∃ n, n ≤ 40 ∧ M 61 h = nI n ∧ ∀ i, i < n → SV (M (63 + h) i) (N 80 (40 * h + i))
def SP (M N : am_M) : Prop := ∃ tr, tr ≤ 40 ∧ M 58 1 = nI tr ∧ N 68 19 = nI tr ∧ ∀ i, i < tr → M 59 i = N 77 i
def IV (M N : am_M) : Prop := RA M 9 30 (N 69) ∧ M 0 4 = N 68 4 ∧ (M 0 4 = 0 ∨ RA M 16 41 (N 70)) ∧ (∀ k, k < 6 → M 67 k = N 72 k) ∧ SP M N ∧ SH M N
def GC : List Nat := [0, 9, 10, 11, 12, 13, 14, 16, 17, 18, 19, 20, 21, 30, 31, 32, 33, 34, 37, 38, 41, 42, 43, 44, 45, 48, 49, 58, 59, 60, 61, 63, 64, 65, 66, 67]
def Cs : List Nat := [15, 22, 23, 24, 25, 26, 27, 28, 29, 35, 36, 39, 40, 46, 47, 50, 51, 52, 53, 54, 55, 56, 57]
def Ms : List Nat := [71, 73, 74, 75, 76, 81]
theorem RA_ch {M M' : am_M} {t dk : Nat} {S : Nat → Int32} (h : RA M t dk S) (hc : ∀ a ∈ [t, t + 1, t + 2, t + 3, t + 4, t + 5, dk, dk + 1, dk + 2, dk + 3, dk + 4, dk + 7, dk + 8], M' a = M a) : RA M' t dk S := by
  obtain ⟨nb, ng, hW, hg, hR, hD⟩ := h
  refine ⟨nb, ng, hW, hg, RS_ch hR ⟨hc _ (by simp), hc _ (by simp), hc _ (by simp), hc _ (by simp), hc _ (by simp), hc _ (by simp)⟩, ?_⟩
  unfold RD
  rw [hc dk (by simp), hc (dk + 1) (by simp), hc (dk + 2) (by simp), hc (dk + 3) (by simp), hc (dk + 4) (by simp), hc (dk + 7) (by simp), hc (dk + 8) (by simp)]
  exact hD
theorem IV_c {M M' N : am_M} (h : IV M N) (hc : ∀ a ∈ GC, M' a = M a) : IV M' N := by
  obtain ⟨h1, h2, h3, h4, h5, h6⟩ := h
  have e0 := hc 0 (by decide)
  refine ⟨RA_ch h1 (fun a ha => hc a ?_), by rw [e0]; exact h2, ?_, ?_, ?_, fun h hh => ?_⟩
  · revert a; decide
  · rw [e0]
    exact h3.imp id (fun z => RA_ch z (fun a ha => hc a (by revert a; decide)))
  · rw [hc 67 (by decide)]; exact h4
  · unfold SP
    rw [hc 58 (by decide), hc 59 (by decide)]; exact h5
  · rw [hc 60 (by decide), hc 61 (by decide), hc (63 + h) (by
      have : ∀ h, h < 4 → 63 + h ∈ GC := by decide
      exact this h hh)]
    exact h6 h hh
theorem IV_m {M N N' : am_M} (h : IV M N) (hn : ∀ a ∈ [69, 70, 72, 77, 78, 79, 80], N' a = N a) (e4 : N' 68 4 = N 68 4) (e19 : N' 68 19 = N 68 19) : IV M N' := by
  obtain ⟨h1, h2, h3, h4, h5, h6⟩ := h
  unfold IV SP SH
  rw [hn 69 (by decide), hn 70 (by decide), hn 72 (by decide), hn 77 (by decide), hn 78 (by decide), hn 79 (by decide), hn 80 (by decide), e4, e19]
  exact ⟨h1, h2, h3, h4, h5, h6⟩
theorem IV_C {M M' : am_M} (h : IV M M) (hc : Ch Cs M M') : IV M' M' :=
  IV_m (IV_c h (fun a ha => hc a (by revert a; decide))) (fun a ha => hc a (by revert a; decide)) (by rw [hc 68 (by decide)]) (by rw [hc 68 (by decide)])
theorem IV_J {M M' : am_M} (h : IV M M) (hj : J6 Ms M M') : IV M' M' :=
  IV_m (IV_c h (fun a ha => hj.1 a (by revert a; decide) (by revert a; decide))) (fun a ha => hj.1 a (by revert a; decide) (by revert a; decide)) (hj.2 4 (by omega)) (hj.2 19 (by omega))
abbrev eR (k : Nat) : Int32 := am_k (-1000000000) - nI k
abbrev eC (M : am_M) (k : Nat) : am_M := am_up M 67 k (M 67 k + nI 1)
abbrev eM (M : am_M) (k : Nat) : am_M := am_up M 72 k (M 72 k + nI 1)
theorem IV_e {M : am_M} (k : Nat) (h : IV M M) {M2 : am_M} (hj : J6 Ms (eC M k) M2) : IV (eM M2 k) (eM M2 k) := by
  have h0 := h
  obtain ⟨h1, h2, h3, h4, h5, h6⟩ := h
  have f : ∀ a ∈ GC, a ≠ 67 → eM M2 k a = M a := fun a ha hb => by
    show am_up M2 72 k _ a = _
    rw [au_b (by revert a; decide), hj.1 a (by revert a; decide) (by revert a; decide)]
    exact au_b hb
  have g : ∀ a ∈ [69, 70, 77, 78, 79, 80], eM M2 k a = M a := fun a ha => by
    show am_up M2 72 k _ a = _
    rw [au_b (by revert a; decide), hj.1 a (by revert a; decide) (by revert a; decide)]
    exact au_b (by revert a; decide)
  have e : ∀ j, (j < 5 ∨ 13 < j) → eM M2 k 68 j = M 68 j := fun j hjj => by
    show am_up M2 72 k _ 68 j = _
    rw [au_b (by decide), hj.2 j hjj]
    show am_up M 67 k _ 68 j = _
    rw [au_b (by decide)]
  have e67 : ∀ q, q < 6 → eM M2 k 67 q = eM M2 k 72 q := fun q hq => by
    show am_up M2 72 k _ 67 q = am_up M2 72 k _ 72 q
    rw [au_b (by decide), hj.1 67 (by decide) (by decide)]
    by_cases c : q = k
    · subst c
      rw [au_s, hj.1 72 (by decide) (by decide)]
      show am_up M 67 q _ 67 q = am_up M 67 q _ 72 q + nI 1
      rw [au_s, au_b (by decide), h4 q hq]
    · rw [au_j c, hj.1 72 (by decide) (by decide)]
      show am_up M 67 k _ 67 q = am_up M 67 k _ 72 q
      rw [au_j c, au_b (by decide), h4 q hq]
  have hz : IV M (eM M2 k) → IV M (eM M2 k) := id
  refine ⟨?_, ?_, ?_, e67, ?_, fun h hh => ?_⟩
  · rw [g 69 (by decide)]
    exact RA_ch h1 (fun a ha => f a (by revert a; decide) (by revert a; decide))
  · rw [f 0 (by decide) (by decide), e 4 (by omega)]; exact h2
  · rw [f 0 (by decide) (by decide), g 70 (by decide)]
    exact h3.imp id (fun z => RA_ch z (fun a ha => f a (by revert a; decide) (by revert a; decide)))
  · unfold SP
    rw [f 58 (by decide) (by decide), f 59 (by decide) (by decide), g 77 (by decide), e 19 (by omega)]
    exact h5
  · have hm : ∀ h, h < 4 → 63 + h ∈ GC ∧ 63 + h ≠ 67 := by decide
    rw [f 60 (by decide) (by decide), f 61 (by decide) (by decide), f (63 + h) (hm h hh).1 (hm h hh).2, g 78 (by decide), g 79 (by decide), g 80 (by decide)]
    exact h6 h hh
/-- one call on both sides: the same answer, and the state holds -/
def PO (d i j : Nat) (as : List Value) (M : am_M) : Prop := ∃ r M1 M2, am_call (d + 60) i (.ref 0 :: as) M = some (some (.int r), M1) ∧ am_call (d + 60) j (.ref 68 :: as) M1 = some (some (.int r), M2) ∧ IV M2 M2
theorem PO_a {d i j : Nat} {as : List Value} {M M1 : am_M} {r : Int32} (hI : IV M M) (h1 : am_call (d + 60) i (.ref 0 :: as) M = some (some (.int r), M1)) (hC : Ch Cs M M1) (h2 : ∃ M2, am_call (d + 60) j (.ref 68 :: as) M1 = some (some (.int r), M2) ∧ J6 Ms M1 M2) : PO d i j as M := by
  obtain ⟨M2, h2, h3⟩ := h2
  exact ⟨r, M1, M2, h1, h2, IV_J (IV_C hI hC) h3⟩
theorem PO_e {d i j k : Nat} {as : List Value} {M M1 : am_M} (hI : IV M M) (h1 : am_call (d + 60) i (.ref 0 :: as) M = some (some (.int (eR k)), eC M1 k)) (hC : Ch Cs M M1) (h2 : ∃ M2, am_call (d + 60) j (.ref 68 :: as) (eC M1 k) = some (some (.int (eR k)), eM M2 k) ∧ J6 Ms (eC M1 k) M2) : PO d i j as M := by
  obtain ⟨M2, h2, h3⟩ := h2
  exact ⟨_, _, _, h1, h2, IV_e k (IV_C hI hC) h3⟩
theorem ce (d k : Nat) (M : am_M) (hk : k < 6) : am_call (d + 1) i11_error [.ref 0, .int (nI k)] M = some (some (.int (eR k)), eC M k) := c_error d k M hk
theorem me1 (d : Nat) (M : am_M) : am_call (d + 1) i12_errs [.ref 68, .int (am_k (-1000000001))] M = some (some (.int (eR 1)), eM M 1) := by
  rw [show am_k (-1000000001) = am_k (-1000000000) - nI 1 by decide +kernel]; exact m_errs d 1 M (by omega)
theorem me2 (d : Nat) (M : am_M) : am_call (d + 1) i12_errs [.ref 68, .int (am_k (-1000000002))] M = some (some (.int (eR 2)), eM M 2) := by
  rw [show am_k (-1000000002) = am_k (-1000000000) - nI 2 by decide +kernel]; exact m_errs d 2 M (by omega)
theorem me3 (d : Nat) (M : am_M) : am_call (d + 1) i12_errs [.ref 68, .int (am_k (-1000000003))] M = some (some (.int (eR 3)), eM M 3) := by
  rw [show am_k (-1000000003) = am_k (-1000000000) - nI 3 by decide +kernel]; exact m_errs d 3 M (by omega)
theorem me4 (d : Nat) (M : am_M) : am_call (d + 1) i12_errs [.ref 68, .int (am_k (-1000000004))] M = some (some (.int (eR 4)), eM M 4) := by
  rw [show am_k (-1000000004) = am_k (-1000000000) - nI 4 by decide +kernel]; exact m_errs d 4 M (by omega)
theorem me5 (d : Nat) (M : am_M) : am_call (d + 1) i12_errs [.ref 68, .int (am_k (-1000000005))] M = some (some (.int (eR 5)), eM M 5) := by
  rw [show am_k (-1000000005) = am_k (-1000000000) - nI 5 by decide +kernel]; exact m_errs d 5 M (by omega)
/-! what is within bounds -/
theorem eC_b {M : am_M} {k a : Nat} (h : a ≠ 67) : eC M k a = M a := au_b h
theorem inL {x y z : Int32} : ((y.toInt64.toInt ≤ x.toInt64.toInt) ∧ x.toInt64.toInt ≤ z.toInt64.toInt) = (y.toInt ≤ x.toInt ∧ x.toInt ≤ z.toInt) := by
  rw [Int32.toInt_toInt64, Int32.toInt_toInt64, Int32.toInt_toInt64]
/-- within, on both sides: with a bound hi -/
theorem cW (d : Nat) (v : Int32) (lo hi : Nat) (M : am_M) (hl : lo < 1000) (hh : hi < 1000) : am_call (d + 1) i11_isWithin [.int v, .int (nI lo), .int (nI hi)] M = some (some (.int (bi ((lo : Int) ≤ v.toInt ∧ v.toInt ≤ hi))), M) := by
  rw [c_isWithin, nI_toInt (by omega), nI_toInt (by omega)]
theorem mW (d : Nat) (v : Int32) (lo hi : Nat) (M : am_M) (hl : lo < 1000) (hh : hi < 1000) : am_call (d + 1) i12_in [.long v.toInt64, .long (lN lo), .long (lN hi)] M = some (some (.int (bi ((lo : Int) ≤ v.toInt ∧ v.toInt ≤ hi))), M) := by
  rw [m_in, Int32.toInt_toInt64, lN_toInt (by omega), lN_toInt (by omega)]
