/-! TEXTS: one stack reads as the descent does: the innermost level, all together, the whole text -/
section SIM2
variable {b : Nat → Int32} {n use : Nat} {e : Nat → Int32}
theorem hr_b {a : Nat} (h : a < n) : hr b n a false = b a := by unfold hr; rw [if_pos ⟨h, rfl⟩]
theorem stn_lo {c : Int32} (h : 48 ≤ c.toInt ∧ c.toInt < 58) : stn c = 0 := by
  have key : ∀ k : Nat, (k < 48 ∨ 58 ≤ k) → k < 128 → c ≠ nI k := by
    intro k h1 h2 hc
    subst hc
    rw [nI_toInt (by omega)] at h
    omega
  unfold stn
  rw [if_neg (key 124 (by omega) (by omega)), if_neg (key 38 (by omega) (by omega)), if_neg (by rintro (q | q | q); exact key 60 (by omega) (by omega) q; exact key 61 (by omega) (by omega) q; exact key 62 (by omega) (by omega) q), if_neg (by rintro (q | q); exact key 43 (by omega) (by omega) q; exact key 45 (by omega) (by omega) q), if_neg (by rintro (q | q | q); exact key 42 (by omega) (by omega) q; exact key 47 (by omega) (by omega) q; exact key 37 (by omega) (by omega) q), if_neg (key 33 (by omega) (by omega))]
theorem dg_ne {c : Int32} (h : 48 ≤ c.toInt ∧ c.toInt < 58) : ¬ (c = nI 33 ∨ c = nI 40) ∧ c ≠ nI 41 := by
  refine ⟨?_, ?_⟩
  · rintro (q | q) <;> (rw [q, nI_toInt (by omega)] at h; omega)
  · intro q; rw [q, nI_toInt (by omega)] at h; omega
/-- a number, digit by digit -/
theorem sy_digits : ∀ (k g a : Nat) (v : Int32) (cs st : List Int32) (o : Nat), g + k = 4 → 1 ≤ g → a ≤ n → ∃ g', syG b n use (n - a) (cs ++ [v], st, o, g, false) = syG b n use (n - (rdD b n false k v a).2) (cs ++ [(rdD b n false k v a).1], st, o, g', false) ∧ (dgt (hr b n (rdD b n false k v a).2 false) → g' = 0 ∨ 4 ≤ g')
  | 0, g, a, v, cs, st, o, h, hg, ha => ⟨g, rfl, fun _ => Or.inr (by omega)⟩
  | k + 1, g, a, v, cs, st, o, h, hg, ha => by
    unfold rdD
    by_cases hd : 48 ≤ (hr b n a false).toInt ∧ (hr b n a false).toInt < 58
    · rw [if_pos hd]
      have hin := hr_in (fun q => dg_m1 (q ▸ hd))
      have hb := hr_b (b := b) hin.1
      obtain ⟨g', h1, h2⟩ := sy_digits k (g + 1) (a + 1) (nI 10 * v + hr b n a false - nI 48) cs st o (by omega) (by omega) (by omega)
      refine ⟨g', ?_, h2⟩
      rw [← h1]
      refine syG_s hin.1 ?_
      rw [← hb]
      unfold syStep
      rw [if_neg (show ¬ (false = true) by decide)]
      unfold syF
      rw [if_pos hd]
      dsimp only
      rw [if_neg (by simp; omega)]
      simp
    · rw [if_neg hd]
      exact ⟨g, rfl, fun q => absurd q hd⟩
theorem nmx_ne {c : Int32} (h : 0 < nmx use c) : ¬ (c = nI 33 ∨ c = nI 40) := by
  rintro (q | q) <;> (subst q; unfold nmx at h; split at h <;> exact absurd h (by decide +kernel))
theorem sm_single {f : Nat} (ih : smP b n use e f) (o a g : Nat) (cs st : List Int32) (ho : o ≤ 5) (ha : a ≤ n) (hf : 16 * (n - a) + 3 ≤ f + 1) : smR b n use 6 a (cs, st, o, g, true) cs st o (rd b n use e (f + 1) 6 none o a false) := by
  rw [rd_six]
  have hnx : ∀ (c : Int32) (pend : List Int32), nxt 6 c pend := fun c pend s h1 h2 _ => absurd h1 (by omega)
  by_cases hd : 48 ≤ (hr b n a false).toInt ∧ (hr b n a false).toInt < 58
  · rw [if_pos hd]
    have hin := hr_in (fun q => dg_m1 (q ▸ hd))
    have hb := hr_b (b := b) hin.1
    have hrd : rdD b n false 4 (nI 0) a = rdD b n false 3 (hr b n a false - nI 48) (a + 1) := by
      conv => lhs; unfold rdD
      rw [if_pos hd]
      congr 1
      rw [nI_0]
      simp
    rw [hrd]
    obtain ⟨g', h1, h2⟩ := sy_digits (b := b) (n := n) (use := use) 3 1 (a + 1) (hr b n a false - nI 48) cs st o rfl (by omega) (by omega)
    refine ⟨fun hw => (by cases hw), fun _ => ⟨_, [], g', (List.append_nil _).symm, fun s q => absurd q List.not_mem_nil, ?_, by simp, h2, hnx _ _⟩⟩
    show _ = syG b n use _ (_, st, o, g', false)
    rw [← h1]
    refine syG_s hin.1 ?_
    rw [← hb]
    unfold syStep
    rw [if_pos rfl]
    unfold syB
    rw [if_neg (dg_ne hd).1, if_pos hd]
  · rw [if_neg hd]
    by_cases hn : 0 < nmx use (hr b n a false)
    · rw [if_pos hn]
      have hin := hr_in (b := b) (n := n) (a := a) (w := false) (fun q => by rw [q, nmx_m1] at hn; omega)
      have hb := hr_b (b := b) hin.1
      refine ⟨fun hw => (by cases hw), fun _ => ⟨_, [], 0, (List.append_nil _).symm, fun s q => absurd q List.not_mem_nil, ?_, by simp, fun _ => Or.inl rfl, hnx _ _⟩⟩
      refine syG_s hin.1 ?_
      rw [← hb]
      unfold syStep
      rw [if_pos rfl]
      unfold syB
      rw [if_neg (nmx_ne hn), if_neg hd, if_pos hn]
      rfl
    · rw [if_neg hn]
      by_cases h33 : o < 5 ∧ hr b n a false = nI 33
      · rw [if_pos h33]
        have hin := hr_in (b := b) (n := n) (a := a) (w := false) (fun q => by rw [q] at h33; exact absurd h33.2 (by decide +kernel))
        have hb := hr_b (b := b) hin.1
        have hstep := syG_s (b := b) (n := n) (use := use) (s := (cs, st, o, g, true)) (s' := (cs, nI 33 :: st, o + 1, g, true)) hin.1 (by
          rw [← hb, h33.2]
          unfold syStep
          rw [if_pos rfl]
          unfold syB
          rw [if_pos (Or.inl rfl), if_pos h33.1])
        have hY := ih.1 6 (o + 1) (a + 1) g cs (nI 33 :: st) (by omega) (by omega) (by omega) (by omega) (by omega) (Or.inl rfl) (fun _ => Or.inr trivial)
        generalize rd b n use e f 6 none (o + 1) (a + 1) false = y at hY
        unfold rdNot
        refine ⟨fun hw => (by rw [hstep]; exact hY.1 hw), fun hw => ?_⟩
        obtain ⟨pre, pend, g2, e1, e2, e3, e4, e5, -⟩ := hY.2 hw
        refine ⟨pre, pend ++ [nI 33], g2, ?_, ?_, ?_, e4, e5, hnx _ _⟩
        · show y.1.2 ++ [-(nI 33)] = _
          rw [e1, ng_app]
          simp [ng]
        · intro s hs
          rcases List.mem_append.mp hs with q | q
          · exact e2 s q
          · rw [List.mem_singleton.mp q]; decide +kernel
        · rw [hstep, e3, cn_app]
          have : cn [nI 33] = 1 := by decide +kernel
          rw [this, show o + 1 + cn pend = o + (cn pend + 1) by omega]
          simp [List.append_assoc]
      · rw [if_neg h33]
        by_cases h40 : o < 5 ∧ hr b n a false = nI 40
        · rw [if_pos h40]
          have hin := hr_in (b := b) (n := n) (a := a) (w := false) (fun q => by rw [q] at h40; exact absurd h40.2 (by decide +kernel))
          have hb := hr_b (b := b) hin.1
          have hstep := syG_s (b := b) (n := n) (use := use) (s := (cs, st, o, g, true)) (s' := (cs, nI 40 :: st, o + 1, g, true)) hin.1 (by
            rw [← hb, h40.2]
            unfold syStep
            rw [if_pos rfl]
            unfold syB
            rw [if_pos (Or.inr rfl), if_pos h40.1])
          have hY := ih.1 1 (o + 1) (a + 1) g cs (nI 40 :: st) (by omega) (by omega) (by omega) (by omega) (by omega) (Or.inr (fun s h => by cases h; decide +kernel)) (fun _ => Or.inr trivial)
          have hle := rd_le b n use e f 1 none (o + 1) (a + 1) false
          generalize rd b n use e f 1 none (o + 1) (a + 1) false = y at hY hle
          obtain ⟨yv, ya, yw⟩ := y
          dsimp only at hle
          unfold rdPar
          dsimp only
          cases yw with
          | true => sorry
          | false => sorry
        · rw [if_neg h40]
          sorry
end SIM2
