/-! what the tables and the start say -/
theorem fr_ins : ∀ (ci : Nat) (q : vw_C), vwCl[ci]? = some q → ∃ (j n : Nat), lw_tbl[j]? = some (Jvm.Cond.instantiable q.1 n) := by
  intro ci q hq
  match ci, hq with
  | 0, hq => cases hq; exact ⟨135, 0, by decide +kernel⟩
  | 1, hq => cases hq; exact ⟨185, 7, by decide +kernel⟩
  | 2, hq => cases hq; exact ⟨121, 0, by decide +kernel⟩
  | 3, hq => cases hq; exact ⟨100, 0, by decide +kernel⟩
  | 4, hq => cases hq; exact ⟨128, 0, by decide +kernel⟩
  | 5, hq => cases hq; exact ⟨93, 0, by decide +kernel⟩
  | 6, hq => cases hq; exact ⟨114, 0, by decide +kernel⟩
  | 7, hq => cases hq; exact ⟨107, 0, by decide +kernel⟩
  | 8, hq => cases hq; exact ⟨142, 9, by decide +kernel⟩
  | 9, hq => cases hq; exact ⟨253, 4, by decide +kernel⟩
  | 10, hq => cases hq; exact ⟨191, 8, by decide +kernel⟩
  | 11, hq => cases hq; exact ⟨84, 14, by decide +kernel⟩
  | 12, hq => cases hq; exact ⟨836, 27, by decide +kernel⟩
  | n + 13, hq => cases hq
theorem lc_tabs {s : State} {b : Nat} (hts : ∀ w ∈ lw_tbl, w.before #[Value.ref b] s = true) : ∃ (D : va_G) (c4 : am_T4), cn_T D c4 s ∧ am_NW s := by
  have hw : ∀ w ∈ am_ws, w.before #[Value.ref b] s = true := fun w h => hts w (List.mem_filter.mp h).1
  have hin : ∀ ci : Nat, ∃ (cC : ClassId) (iS : Nat → Nat), ∀ q, vwCl[ci]? = some q → u_Kn s q.1 q.2.1 q.2.2 cC iS := by
    intro ci
    cases hq : vwCl[ci]? with
    | none => exact ⟨default, fun _ => 0, fun q h => by cases h⟩
    | some q =>
      obtain ⟨j, n, hj⟩ := fr_ins ci q hq
      obtain ⟨cC, iS, h⟩ := u_known hw (am_cls ci q hq).2.2 (hts _ (List.mem_of_getElem? hj))
      exact ⟨cC, iS, fun q' h' => by cases h'; exact h⟩
  obtain ⟨cI, kI, cc, a1, a2, a3⟩ := Cond.arrayClass_spec (hts (.arrayClass .int) (List.mem_of_getElem? (i := 182) (by decide +kernel)))
  obtain ⟨cZ, kZ, cz, z1, z2, z3⟩ := Cond.arrayClass_spec (hts (.arrayClass .boolean) (List.mem_of_getElem? (i := 183) (by decide +kernel)))
  have hAO := hts (.arrayOver (.object "ShelfNights$Kind")) (List.mem_of_getElem? (i := 92) (by decide +kernel))
  obtain ⟨comp, cQ, kQ, q1, q2, q3, q4, q5⟩ := Cond.arrayOver_spec hAO
  obtain ⟨compA, cO, kO, o1, o2, o3, o4, o5⟩ := arrayOverA_spec (hts (.arrayOver (.array .int)) (List.mem_of_getElem? (i := 277) (by decide +kernel)))
  have e : compA = cI := Option.some.inj (o1.symm.trans a1)
  subst e
  refine ⟨(fun ci => Classical.choose (hin ci), fun ci => Classical.choose (Classical.choose_spec (hin ci))), (compA, cZ, cQ, cO), ⟨⟨fun ci q hq => Classical.choose_spec (Classical.choose_spec (hin ci)) q hq, fun k q hq => ?_⟩, fun j a i x h hj => va_Nw.of rfl (hts _ (List.mem_of_getElem? hj)), va_AO.of hAO, ⟨kO, kI, cc, o3, o4, a2, a3, o5⟩, fun j a b hj => va_Nw.of rfl (hts _ (List.mem_of_getElem? hj))⟩, fun j a i b n d h hj => va_Nw.of rfl (hts _ (List.mem_of_getElem? hj))⟩
  match k, hq with
  | 0, hq => cases hq; exact ⟨fun N z => ⟨(fun k h => by cases h), kI, a2, cc, a3⟩, a1⟩
  | 1, hq => cases hq; exact ⟨fun N z => ⟨(fun k h => by cases h), kZ, z2, cz, z3⟩, z1⟩
  | 2, hq => cases hq; exact ⟨fun N z => ⟨(fun k h => by cases h), kQ, q3, comp, q4⟩, kQ, comp, q3, q4, q1, q5⟩
  | 3, hq => cases hq; exact ⟨fun N z => ⟨(fun k h => by cases h), kO, o3, compA, o4⟩, o5⟩
  | n + 4, hq => cases hq
theorem lc_st1000 {s : State} {b : Nat} (hts : ∀ w ∈ lw_tbl, w.before #[Value.ref b] s = true) (hgv : (Jvm.Cond.and given_1 narrow_1).before #[Value.ref b] s = true) : ∃ t : Nat, va_Z "ShelfNights" "KIND_ABOVE" "[I" (.ref t) (lc_A s) s s.heap ∧ va_T .int t 7 (fun j => .int (am_sta 1000 j)) (lc_A s) s s.heap := by
  have hs := flat_of_before _ hgv
  have hA : ∀ a : Nat, a < s.heap.size → ¬ lc_A s a := fun a h => Nat.not_le.mpr h
  obtain ⟨t, e1, ht⟩ := va_Tof (args := #[Value.ref b]) (s := s) (tm := .static "ShelfNights" "KIND_ABOVE" "[I") (ty := .int) (N := 7) (f := fun j => .int (am_sta 1000 j)) (A := lc_A s) (by decide) (hs _ (by decide +kernel)) (va_eqt (t := .length (.static "ShelfNights" "KIND_ABOVE" "[I")) (z := 7) (hs _ (by decide +kernel))) (fr_all_of 7 ⟨va_eqt (t := .elem (.static "ShelfNights" "KIND_ABOVE" "[I") (.int 6)) (z := 3) (hs _ (by decide +kernel)), va_eqt (t := .elem (.static "ShelfNights" "KIND_ABOVE" "[I") (.int 5)) (z := 2) (hs _ (by decide +kernel)), va_eqt (t := .elem (.static "ShelfNights" "KIND_ABOVE" "[I") (.int 4)) (z := 1) (hs _ (by decide +kernel)), va_eqt (t := .elem (.static "ShelfNights" "KIND_ABOVE" "[I") (.int 3)) (z := 0) (hs _ (by decide +kernel)), va_eqt (t := .elem (.static "ShelfNights" "KIND_ABOVE" "[I") (.int 2)) (z := 0) (hs _ (by decide +kernel)), va_eqt (t := .elem (.static "ShelfNights" "KIND_ABOVE" "[I") (.int 1)) (z := 0) (hs _ (by decide +kernel)), va_eqt (t := .elem (.static "ShelfNights" "KIND_ABOVE" "[I") (.int 0)) (z := (-1)) (hs _ (by decide +kernel)), trivial⟩) hA
  exact ⟨t, va_Zref (hts (.laysStatic "ShelfNights" "KIND_ABOVE" "[I") (List.mem_of_getElem? (i := 430) (by decide +kernel))) (hts (.initialized "ShelfNights") (List.mem_of_getElem? (i := 68) (by decide +kernel))) e1 hA, ht⟩
theorem lc_st1001 {s : State} {b : Nat} (hts : ∀ w ∈ lw_tbl, w.before #[Value.ref b] s = true) (hgv : (Jvm.Cond.and given_1 narrow_1).before #[Value.ref b] s = true) : ∃ t : Nat, va_Z "ShelfNights" "NAMES" "[I" (.ref t) (lc_A s) s s.heap ∧ va_T .int t 6 (fun j => .int (am_sta 1001 j)) (lc_A s) s s.heap := by
  have hs := flat_of_before _ hgv
  have hA : ∀ a : Nat, a < s.heap.size → ¬ lc_A s a := fun a h => Nat.not_le.mpr h
  obtain ⟨t, e1, ht⟩ := va_Tof (args := #[Value.ref b]) (s := s) (tm := .static "ShelfNights" "NAMES" "[I") (ty := .int) (N := 6) (f := fun j => .int (am_sta 1001 j)) (A := lc_A s) (by decide) (hs _ (by decide +kernel)) (va_eqt (t := .length (.static "ShelfNights" "NAMES" "[I")) (z := 6) (hs _ (by decide +kernel))) (fr_all_of 6 ⟨va_eqt (t := .elem (.static "ShelfNights" "NAMES" "[I") (.int 5)) (z := 110) (hs _ (by decide +kernel)), va_eqt (t := .elem (.static "ShelfNights" "NAMES" "[I") (.int 4)) (z := 112) (hs _ (by decide +kernel)), va_eqt (t := .elem (.static "ShelfNights" "NAMES" "[I") (.int 3)) (z := 97) (hs _ (by decide +kernel)), va_eqt (t := .elem (.static "ShelfNights" "NAMES" "[I") (.int 2)) (z := 114) (hs _ (by decide +kernel)), va_eqt (t := .elem (.static "ShelfNights" "NAMES" "[I") (.int 1)) (z := 108) (hs _ (by decide +kernel)), va_eqt (t := .elem (.static "ShelfNights" "NAMES" "[I") (.int 0)) (z := 111) (hs _ (by decide +kernel)), trivial⟩) hA
  exact ⟨t, va_Zref (hts (.laysStatic "ShelfNights" "NAMES" "[I") (List.mem_of_getElem? (i := 483) (by decide +kernel))) (hts (.initialized "ShelfNights") (List.mem_of_getElem? (i := 68) (by decide +kernel))) e1 hA, ht⟩
def fr_ad (t1 t2 : Nat) (l : List Nat) (k : Nat) : Nat := bif Nat.beq k 1000 then t1 else bif Nat.beq k 1001 then t2 else l.getD k 0
