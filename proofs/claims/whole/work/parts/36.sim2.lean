/-! TEXTS: one stack reads as the descent does: the innermost level, all together, the whole text -/
section SIM2
variable {b : Nat → Int32} {n use : Nat} {e : Nat → Int32}
theorem hr_b {a : Nat} (h : a < n) : hr b n a false = b a := by unfold hr; rw [if_pos ⟨h, rfl⟩]
theorem stn_lo {c : Int32} (h : 48 ≤ c.toInt ∧ c.toInt < 58) : stn c = 0 := by
  have key : ∀ k : Nat, (k < 48 ∨ 58 ≤ k) → k < 128 → c ≠ nI k := by
    intro k h1 h2 hc
    subst hc
    rw [nI_toInt (by omega)] at h
    omega
  unfold stn
  rw [if_neg (key 124 (by omega) (by omega)), if_neg (key 38 (by omega) (by omega)), if_neg (by rintro (q | q | q); exact key 60 (by omega) (by omega) q; exact key 61 (by omega) (by omega) q; exact key 62 (by omega) (by omega) q), if_neg (by rintro (q | q); exact key 43 (by omega) (by omega) q; exact key 45 (by omega) (by omega) q), if_neg (by rintro (q | q | q); exact key 42 (by omega) (by omega) q; exact key 47 (by omega) (by omega) q; exact key 37 (by omega) (by omega) q), if_neg (key 33 (by omega) (by omega))]
theorem dg_ne {c : Int32} (h : 48 ≤ c.toInt ∧ c.toInt < 58) : ¬ (c = nI 33 ∨ c = nI 40) ∧ c ≠ nI 41 := by
  refine ⟨?_, ?_⟩
  · rintro (q | q) <;> (rw [q, nI_toInt (by omega)] at h; omega)
  · intro q; rw [q, nI_toInt (by omega)] at h; omega
/-- a number, digit by digit -/
theorem sy_digits : ∀ (k g a : Nat) (v : Int32) (cs st : List Int32) (o : Nat), g + k = 4 → 1 ≤ g → a ≤ n → ∃ g', syG b n use (n - a) (cs ++ [v], st, o, g, false) = syG b n use (n - (rdD b n false k v a).2) (cs ++ [(rdD b n false k v a).1], st, o, g', false) ∧ (dgt (hr b n (rdD b n false k v a).2 false) → g' = 0 ∨ 4 ≤ g')
  | 0, g, a, v, cs, st, o, h, hg, ha => ⟨g, rfl, fun _ => Or.inr (by omega)⟩
  | k + 1, g, a, v, cs, st, o, h, hg, ha => by
    unfold rdD
    by_cases hd : 48 ≤ (hr b n a false).toInt ∧ (hr b n a false).toInt < 58
    · rw [if_pos hd]
      have hin := hr_in (fun q => dg_m1 (q ▸ hd))
      have hb := hr_b (b := b) hin.1
      obtain ⟨g', h1, h2⟩ := sy_digits k (g + 1) (a + 1) (nI 10 * v + hr b n a false - nI 48) cs st o (by omega) (by omega) (by omega)
      refine ⟨g', ?_, h2⟩
      rw [← h1]
      refine syG_s hin.1 ?_
      rw [← hb]
      unfold syStep
      rw [if_neg (show ¬ (false = true) by decide)]
      unfold syF
      rw [if_pos hd]
      dsimp only
      rw [if_neg (by simp; omega)]
      simp
    · rw [if_neg hd]
      exact ⟨g, rfl, fun q => absurd q hd⟩
theorem nmx_ne {c : Int32} (h : 0 < nmx use c) : ¬ (c = nI 33 ∨ c = nI 40) := by
  rintro (q | q) <;> (subst q; unfold nmx at h; split at h <;> exact absurd h (by decide +kernel))
/-- behind a whole text a byte that goes on with none -/
theorem sy_bad {ya g o : Nat} {cs pend st : List Int32} (hya : ya ≤ n) (h41 : hr b n ya false ≠ nI 41) (hp : ∀ s ∈ pend, 1 ≤ stn s) (hdg : dgt (hr b n ya false) → g = 0 ∨ 4 ≤ g) (hnx : nxt 1 (hr b n ya false) pend) (ht : topOK st 1) (hend : ya = n → st ≠ []) : syG b n use (n - ya) (cs, pend ++ st, o + cn pend, g, false) = .inl ya := by
  by_cases hlt : ya < n
  · have hb := hr_b (b := b) hlt
    refine syG_n hlt ?_
    rw [← hb]
    unfold syStep
    rw [if_neg (show ¬ (false = true) by decide)]
    unfold syF
    by_cases hd : 48 ≤ (hr b n ya false).toInt ∧ (hr b n ya false).toInt < 58
    · rw [if_pos hd]
      dsimp only
      rw [if_pos (by have := hdg hd; omega)]
    · rw [if_neg hd, if_neg h41]
      by_cases hs : stn (hr b n ya false) < 1 ∨ 5 < stn (hr b n ya false)
      · rw [if_pos hs]
      · rw [if_neg hs]
        obtain ⟨z1, p1, q, p2, z2, z3, z4⟩ := hnx (stn (hr b n ya false)) (by omega) (by omega) rfl
        dsimp only
        rw [if_pos z1, z2]
        have e1 : o + cn (p1 ++ q :: p2) = o + cn (q :: p2) + cn p1 := by rw [cn_app]; omega
        rw [e1, List.append_assoc, setl_pend p1 _ _ _ z3, setl_stop (fun s h => by cases h; omega)]
        unfold syF3
        dsimp only [List.cons_append]
        rw [if_pos ⟨z1, z4⟩]
  · have : ya = n := by omega
    subst this
    rw [Nat.sub_self]
    unfold syG syEnd
    rw [if_pos]
    right
    dsimp only
    rw [setl_pend pend st cs o hp, setl_stop ht]
    exact hend rfl
theorem sm_single {f : Nat} (ih : smP b n use e f) (o a g : Nat) (cs st : List Int32) (ho : o ≤ 5) (ha : a ≤ n) (hf : 16 * (n - a) + 3 ≤ f + 1) : smR b n use 6 a (cs, st, o, g, true) cs st o (rd b n use e (f + 1) 6 none o a false) := by
  rw [rd_six]
  have hnx : ∀ (c : Int32) (pend : List Int32), nxt 6 c pend := fun c pend s h1 h2 _ => absurd h1 (by omega)
  by_cases hd : 48 ≤ (hr b n a false).toInt ∧ (hr b n a false).toInt < 58
  · rw [if_pos hd]
    have hin := hr_in (fun q => dg_m1 (q ▸ hd))
    have hb := hr_b (b := b) hin.1
    have hrd : rdD b n false 4 (nI 0) a = rdD b n false 3 (hr b n a false - nI 48) (a + 1) := by
      conv => lhs; unfold rdD
      rw [if_pos hd]
      congr 1
      rw [nI_0]
      simp
    rw [hrd]
    obtain ⟨g', h1, h2⟩ := sy_digits (b := b) (n := n) (use := use) 3 1 (a + 1) (hr b n a false - nI 48) cs st o rfl (by omega) (by omega)
    refine ⟨fun hw => (by cases hw), fun _ => ⟨_, [], g', (List.append_nil _).symm, fun s q => absurd q List.not_mem_nil, ?_, by simp, h2, hnx _ _⟩⟩
    show _ = syG b n use _ (_, st, o, g', false)
    rw [← h1]
    refine syG_s hin.1 ?_
    rw [← hb]
    unfold syStep
    rw [if_pos rfl]
    unfold syB
    rw [if_neg (dg_ne hd).1, if_pos hd]
  · rw [if_neg hd]
    by_cases hn : 0 < nmx use (hr b n a false)
    · rw [if_pos hn]
      have hin := hr_in (b := b) (n := n) (a := a) (w := false) (fun q => by rw [q, nmx_m1] at hn; omega)
      have hb := hr_b (b := b) hin.1
      refine ⟨fun hw => (by cases hw), fun _ => ⟨_, [], 0, (List.append_nil _).symm, fun s q => absurd q List.not_mem_nil, ?_, by simp, fun _ => Or.inl rfl, hnx _ _⟩⟩
      refine syG_s hin.1 ?_
      rw [← hb]
      unfold syStep
      rw [if_pos rfl]
      unfold syB
      rw [if_neg (nmx_ne hn), if_neg hd, if_pos hn]
      rfl
    · rw [if_neg hn]
      by_cases h33 : o < 5 ∧ hr b n a false = nI 33
      · rw [if_pos h33]
        have hin := hr_in (b := b) (n := n) (a := a) (w := false) (fun q => by rw [q] at h33; exact absurd h33.2 (by decide +kernel))
        have hb := hr_b (b := b) hin.1
        have hstep := syG_s (b := b) (n := n) (use := use) (s := (cs, st, o, g, true)) (s' := (cs, nI 33 :: st, o + 1, g, true)) hin.1 (by
          rw [← hb, h33.2]
          unfold syStep
          rw [if_pos rfl]
          unfold syB
          rw [if_pos (Or.inl rfl), if_pos h33.1])
        have hY := ih.1 6 (o + 1) (a + 1) g cs (nI 33 :: st) (by omega) (by omega) (by omega) (by omega) (by omega) (Or.inl rfl) (fun _ => Or.inr trivial)
        generalize rd b n use e f 6 none (o + 1) (a + 1) false = y at hY
        unfold rdNot
        refine ⟨fun hw => (by rw [hstep]; exact hY.1 hw), fun hw => ?_⟩
        obtain ⟨pre, pend, g2, e1, e2, e3, e4, e5, -⟩ := hY.2 hw
        refine ⟨pre, pend ++ [nI 33], g2, ?_, ?_, ?_, e4, e5, hnx _ _⟩
        · show y.1.2 ++ [-(nI 33)] = _
          rw [e1, ng_app]
          simp [ng]
        · intro s hs
          rcases List.mem_append.mp hs with q | q
          · exact e2 s q
          · rw [List.mem_singleton.mp q]; decide +kernel
        · rw [hstep, e3, cn_app]
          have : cn [nI 33] = 1 := by decide +kernel
          rw [this, show o + 1 + cn pend = o + (cn pend + 1) by omega]
          simp [List.append_assoc]
      · rw [if_neg h33]
        by_cases h40 : o < 5 ∧ hr b n a false = nI 40
        · rw [if_pos h40]
          have hin := hr_in (b := b) (n := n) (a := a) (w := false) (fun q => by rw [q] at h40; exact absurd h40.2 (by decide +kernel))
          have hb := hr_b (b := b) hin.1
          have hstep := syG_s (b := b) (n := n) (use := use) (s := (cs, st, o, g, true)) (s' := (cs, nI 40 :: st, o + 1, g, true)) hin.1 (by
            rw [← hb, h40.2]
            unfold syStep
            rw [if_pos rfl]
            unfold syB
            rw [if_pos (Or.inr rfl), if_pos h40.1])
          have hY := ih.1 1 (o + 1) (a + 1) g cs (nI 40 :: st) (by omega) (by omega) (by omega) (by omega) (by omega) (Or.inr (fun s h => by cases h; decide +kernel)) (fun _ => Or.inr trivial)
          have hle := rd_le b n use e f 1 none (o + 1) (a + 1) false
          generalize rd b n use e f 1 none (o + 1) (a + 1) false = y at hY hle
          obtain ⟨yv, ya, yw⟩ := y
          dsimp only at hle
          unfold rdPar
          dsimp only
          cases yw with
          | true =>
            rw [hr_m1 (a := ya) (w := true) (by simp), if_neg (by decide +kernel)]
            exact ⟨fun _ => (by rw [hstep]; exact hY.1 rfl), fun hw => (by cases hw)⟩
          | false =>
            obtain ⟨pre, pend, g2, e1, e2, e3, e4, e5, e6⟩ := hY.2 rfl
            dsimp only at e1 e3 e5 e6
            by_cases h41 : hr b n ya false = nI 41
            · rw [if_pos h41, decide_eq_true h41]
              have hin2 := hr_in (b := b) (n := n) (a := ya) (w := false) (fun q => by rw [q] at h41; exact absurd h41 (by decide +kernel))
              have hb2 := hr_b (b := b) hin2.1
              refine ⟨fun hw => (by cases hw), fun _ => ⟨pre ++ ng pend, [], 0, (by rw [← e1]; exact (List.append_nil _).symm), fun s q => absurd q List.not_mem_nil, ?_, ?_, fun _ => Or.inl rfl, hnx _ _⟩⟩
              · rw [hstep, e3]
                refine syG_s hin2.1 ?_
                rw [← hb2, h41]
                unfold syStep
                rw [if_neg (show ¬ (false = true) by decide)]
                unfold syF
                rw [if_neg (by decide +kernel), if_pos rfl]
                dsimp only
                rw [setl_pend pend _ _ _ e2, setl_stop (fun s h => by cases h; decide +kernel)]
                unfold syCl
                dsimp only
                rw [Nat.add_sub_cancel, List.append_assoc]
                rfl
              · simp only [List.length_append] at e4 ⊢
                omega
            · rw [if_neg h41, decide_eq_false h41]
              refine ⟨fun _ => ?_, fun hw => (by cases hw)⟩
              rw [hstep, e3]
              exact sy_bad (hle.2 (by omega)) h41 e2 e5 e6 (fun s h => by cases h; decide +kernel) (fun _ h => by cases h)
        · rw [if_neg h40]
          refine ⟨fun _ => ?_, fun hw => (by cases hw)⟩
          show syG b n use (n - a) (cs, st, o, g, true) = .inl a
          by_cases hlt : a < n
          · have hb := hr_b (b := b) hlt
            refine syG_n hlt ?_
            rw [← hb]
            unfold syStep
            rw [if_pos rfl]
            unfold syB
            by_cases h3 : hr b n a false = nI 33 ∨ hr b n a false = nI 40
            · rw [if_pos h3, if_neg]
              intro ho5
              rcases h3 with q | q
              · exact h33 ⟨ho5, q⟩
              · exact h40 ⟨ho5, q⟩
            · rw [if_neg h3, if_neg hd, if_neg hn]
          · have : a = n := by omega
            subst this
            rw [Nat.sub_self]
            unfold syG syEnd
            rw [if_pos (Or.inl rfl)]
theorem sm_all : ∀ f, smP b n use e f
  | 0 => ⟨fun L o a g cs st h1 h6 ho ha hf => (by omega), fun L o a g x cs st pre pend h1 h5 ho ha hf => (by omega)⟩
  | f + 1 => by
    have ih := sm_all f
    refine ⟨fun L o a g cs st h1 h6 ho ha hf ht hz => ?_, fun L o a g x cs st pre pend h1 h5 ho ha hf ht hx hp hlen hdg hnx => sm_loop ih L o a g x cs st pre pend h1 h5 ho ha hf ht hx hp hlen hdg hnx⟩
    by_cases c : L = 6
    · subst c
      exact sm_single ih o a g cs st ho ha (by omega)
    · rw [rd_none c]
      have htt : topOK st L := ht.resolve_left c
      have hY := ih.1 (L + 1) o a g cs st (by omega) (by omega) ho ha (by omega) (by
        right
        intro s h
        have := htt s h
        omega) (fun _ => Or.inr trivial)
      have hle := rd_le b n use e f (L + 1) none o a false
      generalize rd b n use e f (L + 1) none o a false = y at hY hle
      obtain ⟨yv, ya, yw⟩ := y
      dsimp only at hle ⊢
      cases yw with
      | true =>
        obtain ⟨f', rfl⟩ : ∃ f', f = f' + 1 := ⟨f - 1, by omega⟩
        rw [rd_w]
        exact ⟨fun _ => hY.1 rfl, fun hw => (by cases hw)⟩
      | false =>
        obtain ⟨pre, pend, g2, e1, e2, e3, e4, e5, e6⟩ := hY.2 rfl
        dsimp only at e1 e3 e5 e6
        have hB := ih.2 L o ya g2 yv cs st pre pend h1 (by omega) ho (hle.2 ha) (by omega) htt e1 (fun s q => by have := e2 s q; split <;> omega) e4 e5 e6
        exact ⟨fun hw => (by rw [e3]; exact hB.1 hw), fun hw => (by rw [e3]; exact hB.2 hw)⟩
/-- the whole text: where it is wrong, and its code -/
theorem sy_text {x y z : Int32} : syG b n use n ([], [], 0, 0, true) = (if (rdR b n use x y z).2.2 = true ∨ (rdR b n use x y z).2.1 < n then .inl (rdR b n use x y z).2.1 else .inr (rdR b n use x y z).1.2) := by
  have hA := (sm_all (b := b) (n := n) (use := use) (e := eV x y z) (16 * n + 20)).1 1 0 0 0 [] [] (by omega) (by omega) (by omega) (by omega) (by omega) (Or.inr (fun s h => by cases h)) (fun _ => Or.inr trivial)
  have hle := rd_le b n use (eV x y z) (16 * n + 20) 1 none 0 0 false
  change smR b n use 1 0 _ [] [] 0 (rdR b n use x y z) at hA
  change 0 ≤ (rdR b n use x y z).2.1 ∧ (0 ≤ n → (rdR b n use x y z).2.1 ≤ n) at hle
  generalize rdR b n use x y z = r at hA hle
  obtain ⟨rv, ra, rw'⟩ := r
  dsimp only at hle ⊢
  cases rw' with
  | true =>
    rw [if_pos (Or.inl rfl)]
    exact hA.1 rfl
  | false =>
    obtain ⟨pre, pend, g2, e1, e2, e3, e4, e5, e6⟩ := hA.2 rfl
    dsimp only at e1 e3 e5 e6
    have e3' : syG b n use n ([], [], 0, 0, true) = syG b n use (n - ra) ([] ++ pre, pend ++ [], 0 + cn pend, g2, false) := e3
    rw [e3']
    by_cases hlt : ra < n
    · rw [if_pos (Or.inr hlt)]
      by_cases h41 : hr b n ra false = nI 41
      · have hb := hr_b (b := b) hlt
        refine syG_n hlt ?_
        rw [← hb, h41]
        unfold syStep
        rw [if_neg (show ¬ (false = true) by decide)]
        unfold syF
        rw [if_neg (by decide +kernel), if_pos rfl]
        dsimp only
        rw [setl_pend pend [] _ 0 e2]
        rfl
      · exact sy_bad (by omega) h41 e2 e5 e6 (fun s h => by cases h) (fun q => by omega)
    · rw [if_neg (by rintro (q | q); exact absurd q (by decide); exact hlt q)]
      have : ra = n := by have := hle.2 (by omega); omega
      subst this
      rw [Nat.sub_self]
      unfold syG syEnd
      dsimp only
      rw [setl_pend pend [] _ 0 e2]
      unfold setl
      dsimp only
      rw [if_neg (by rintro (q | q); exact absurd q (by decide); exact q rfl), e1]
      rfl
end SIM2
