/-! TEXTS: one stack reads as the descent does -/
section SIM
variable {b : Nat → Int32} {n use : Nat} {e : Nat → Int32}
def smP (b : Nat → Int32) (n use : Nat) (e : Nat → Int32) (f : Nat) : Prop :=
  (∀ (L o a g : Nat) (cs st : List Int32), 1 ≤ L → L ≤ 6 → o ≤ 5 → a ≤ n → 16 * (n - a) + (15 - 2 * L) ≤ f → (L = 6 ∨ topOK st L) → (a = n → st ≠ [] ∨ True) → smR b n use L a (cs, st, o, g, true) cs st o (rd b n use e f L none o a false)) ∧
  (∀ (L o a g : Nat) (x : Int32 × List Int32) (cs st pre pend : List Int32), 1 ≤ L → L ≤ 5 → o ≤ 5 → a ≤ n → 16 * (n - a) + 1 ≤ f → topOK st L → x.2 = pre ++ ng pend → (∀ s ∈ pend, (if L = 3 then 4 else L) ≤ stn s) → 1 ≤ (cs ++ pre).length → (dgt (hr b n a false) → g = 0 ∨ 4 ≤ g) → nxt (L + 1) (hr b n a false) pend → smR b n use L a (cs ++ pre, pend ++ st, o + cn pend, g, false) cs st o (rd b n use e f L (some x) o a false))
theorem rd_w {f L o a : Nat} {x : Int32 × List Int32} : rd b n use e (f + 1) L (some x) o a true = (x, a, true) := by
  by_cases h : 0 < L
  · refine rd_end ?_
    rw [hr_m1 (by simp), stn_m1]
    omega
  · conv => lhs; unfold rd
    rw [if_neg (fun q => h q.1)]
/-- the loop of a level -/
theorem sm_loop {f : Nat} (ih : smP b n use e f) (L o a g : Nat) (x : Int32 × List Int32) (cs st pre pend : List Int32) (h1 : 1 ≤ L) (h5 : L ≤ 5) (ho : o ≤ 5) (ha : a ≤ n) (hf : 16 * (n - a) + 1 ≤ f + 1) (ht : topOK st L) (hx : x.2 = pre ++ ng pend) (hp : ∀ s ∈ pend, (if L = 3 then 4 else L) ≤ stn s) (hlen : 1 ≤ (cs ++ pre).length) (hdg : dgt (hr b n a false) → g = 0 ∨ 4 ≤ g) (hnx : nxt (L + 1) (hr b n a false) pend) : smR b n use L a (cs ++ pre, pend ++ st, o + cn pend, g, false) cs st o (rd b n use e (f + 1) L (some x) o a false) := by
  by_cases hs : stn (hr b n a false) = L
  · have hin := hr_in (b := b) (n := n) (a := a) (w := false) (fun q => by rw [q, stn_m1] at hs; omega)
    have hb : hr b n a false = b a := by unfold hr; rw [if_pos ⟨hin.1, rfl⟩]
    have hle := rd_le b n use e f (L + 1) none o (a + 1) false
    have hstep := syG_s (b := b) (use := use) hin.1 (by rw [← hb]; exact sy_join hs h1 h5 (cs := cs ++ pre) (g := g) (o := o) hp ht)
    have hcode : cs ++ pre ++ ng pend = cs ++ x.2 := by rw [hx, List.append_assoc]
    rw [hcode] at hstep
    have hY := ih.1 (L + 1) o (a + 1) 0 (cs ++ x.2) (hr b n a false :: st) (by omega) (by omega) ho (by omega) (by omega) (by
      by_cases c : L + 1 = 6
      · exact Or.inl c
      · right
        intro s h
        cases h
        omega) (fun _ => Or.inr trivial)
    generalize hy : rd b n use e f (L + 1) none o (a + 1) false = y at hY hle
    by_cases h3' : L = 3
    · subst h3'
      rw [rd_some3 hs, hy]
      refine ⟨fun hw => ?_, fun hw => ?_⟩
      · rw [hstep]
        exact hY.1 hw
      · obtain ⟨pre2, pend2, g2, e1, e2, e3, e4, e5, e6⟩ := hY.2 hw
        refine ⟨x.2 ++ pre2, pend2 ++ [hr b n a false], g2, ?_, ?_, ?_, ?_, e5, ?_⟩
        · show x.2 ++ y.1.2 ++ [-(hr b n a false)] = _
          rw [e1, ng_app]
          simp [ng]
        · intro s hsm
          rcases List.mem_append.mp hsm with q | q
          · have := e2 s q; omega
          · rw [List.mem_singleton.mp q]; omega
        · rw [hstep, e3, cn_app]
          have : cn [hr b n a false] = 0 := by
            show (if hr b n a false = nI 33 then 1 else 0) + 0 = 0
            rw [if_neg (fun q => by rw [q] at hs; exact absurd hs (by decide +kernel))]
          rw [this]
          simp [List.append_assoc]
        · rw [← List.append_assoc]
          simp only [List.length_append] at e4 ⊢
          omega
        · intro s hs1 hs2 hs3
          by_cases c : s = 3
          · exact ⟨c, pend2, hr b n a false, [], rfl, fun z hz => e2 z hz, hs⟩
          · obtain ⟨z1, -⟩ := e6 s (by omega) hs2 hs3
            exact absurd z1 c
    · rw [rd_some ⟨by omega, hs⟩ h3', hy]
      obtain ⟨yv, ya, yw⟩ := y
      dsimp only at hle hY ⊢
      cases yw with
      | true =>
        have hpos : 1 ≤ f := by omega
        obtain ⟨f', rfl⟩ : ∃ f', f = f' + 1 := ⟨f - 1, by omega⟩
        rw [rd_w]
        exact ⟨fun _ => (by rw [hstep]; exact hY.1 rfl), fun hw => (by cases hw)⟩
      | false =>
        obtain ⟨pre2, pend2, g2, e1, e2, e3, e4, e5, e6⟩ := hY.2 rfl
        dsimp only at e1 e3 e5 e6
        have hcn : cn [hr b n a false] = 0 := by
          show (if hr b n a false = nI 33 then 1 else 0) + 0 = 0
          rw [if_neg (fun q => by rw [q] at hs; exact absurd hs (by have : stn (nI 33) = 6 := by decide +kernel
                                                                    omega))]
        have hB := ih.2 L o ya g2 (rdJ (hr b n a false) x yv) cs st (x.2 ++ pre2) (pend2 ++ [hr b n a false]) h1 h5 ho (hle.2 (by omega)) (by omega) ht (by
          show x.2 ++ yv.2 ++ [-(hr b n a false)] = _
          rw [e1, ng_app]
          simp [ng]) (by
          intro s hsm
          rw [if_neg h3']
          rcases List.mem_append.mp hsm with q | q
          · have := e2 s q; omega
          · rw [List.mem_singleton.mp q]; omega) (by
          rw [← List.append_assoc]
          simp only [List.length_append] at e4 ⊢
          omega) e5 (by
          intro s hs1 hs2 hs3
          obtain ⟨z1, p1, q, p2, z2, z3, z4⟩ := e6 s hs1 hs2 hs3
          exact ⟨z1, p1, q, p2 ++ [hr b n a false], by rw [z2]; simp, z3, z4⟩)
        have hst : syG b n use (n - a) (cs ++ pre, pend ++ st, o + cn pend, g, false) = syG b n use (n - ya) (cs ++ (x.2 ++ pre2), (pend2 ++ [hr b n a false]) ++ st, o + cn (pend2 ++ [hr b n a false]), g2, false) := by
          rw [hstep, e3, cn_app, hcn]
          simp [List.append_assoc]
        refine ⟨fun hw => ?_, fun hw => ?_⟩
        · rw [hst]
          exact hB.1 hw
        · rw [hst]
          exact hB.2 hw
  · rw [rd_end hs]
    refine ⟨fun hw => (by cases hw), fun _ => ⟨pre, pend, g, hx, fun s q => (by have := hp s q; split at this <;> omega), rfl, hlen, hdg, fun s q1 q2 q3 => ?_⟩⟩
    by_cases c : s = L
    · subst c; exact absurd q3 hs
    · exact hnx s (by omega) q2 q3
end SIM
