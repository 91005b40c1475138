/-! TEXTS: reading with one stack of signs that wait (the class's way), as a function; it reads as the reader by descent does -/
abbrev sy_S : Type := List Int32 × List Int32 × Nat × Nat × Bool
def ng (l : List Int32) : List Int32 := l.map (fun s => -s)
def cn : List Int32 → Nat
  | [] => 0
  | s :: l => (if s = nI 33 then 1 else 0) + cn l
def setl (k : Nat) : List Int32 → List Int32 → Nat → List Int32 × List Int32 × Nat
  | [], cs, o => (cs, [], o)
  | s :: st, cs, o => if stn s < k then (cs, s :: st, o) else setl k st (cs ++ [-s]) (if s = nI 33 then o - 1 else o)
def dgt (c : Int32) : Prop := 48 ≤ c.toInt ∧ c.toInt < 58
def topOK (st : List Int32) (k : Nat) : Prop := ∀ s, st.head? = some s → stn s < k
def syF3 (c : Int32) (t : List Int32 × List Int32 × Nat) : Option sy_S := match t.2.1 with
  | [] => some (t.1, [c], t.2.2, 0, true)
  | q :: st => if stn c = 3 ∧ stn q = 3 then none else some (t.1, c :: q :: st, t.2.2, 0, true)
def syCl (t : List Int32 × List Int32 × Nat) : Option sy_S := match t.2.1 with
  | [] => none
  | _ :: st => some (t.1, st, t.2.2 - 1, 0, false)
def syF (c : Int32) (s : sy_S) : Option sy_S :=
  if 48 ≤ c.toInt ∧ c.toInt < 58 then
    (if s.2.2.2.1 < 1 ∨ 4 ≤ s.2.2.2.1 ∨ s.1.length < 1 then none else some (s.1.dropLast ++ [nI 10 * s.1.getLastD 0 + c - nI 48], s.2.1, s.2.2.1, s.2.2.2.1 + 1, false))
  else if c = nI 41 then syCl (setl 1 s.2.1 s.1 s.2.2.1)
  else if stn c < 1 ∨ 5 < stn c then none
  else syF3 c (setl (if stn c = 3 then 4 else stn c) s.2.1 s.1 s.2.2.1)
def syB (use : Nat) (c : Int32) (s : sy_S) : Option sy_S :=
  if c = nI 33 ∨ c = nI 40 then (if s.2.2.1 < 5 then some (s.1, c :: s.2.1, s.2.2.1 + 1, s.2.2.2.1, true) else none)
  else if 48 ≤ c.toInt ∧ c.toInt < 58 then some (s.1 ++ [c - nI 48], s.2.1, s.2.2.1, 1, false)
  else if 0 < nmx use c then some (s.1 ++ [-(nI (nmx use c))], s.2.1, s.2.2.1, 0, false)
  else none
def syStep (use : Nat) (c : Int32) (s : sy_S) : Option sy_S := if s.2.2.2.2 = true then syB use c s else syF c s
def syEnd (n : Nat) (s : sy_S) : Nat ⊕ List Int32 := if s.2.2.2.2 = true ∨ (setl 1 s.2.1 s.1 s.2.2.1).2.1 ≠ [] then .inl n else .inr (setl 1 s.2.1 s.1 s.2.2.1).1
def syG (b : Nat → Int32) (n use : Nat) : Nat → sy_S → Nat ⊕ List Int32
  | 0, s => syEnd n s
  | k + 1, s => match syStep use (b (n - (k + 1))) s with
    | none => .inl (n - (k + 1))
    | some s' => syG b n use k s'
theorem syG_s {b : Nat → Int32} {n use a : Nat} {s s' : sy_S} (h : a < n) (hs : syStep use (b a) s = some s') : syG b n use (n - a) s = syG b n use (n - (a + 1)) s' := by
  obtain ⟨k, hk⟩ : ∃ k, n - a = k + 1 := ⟨n - a - 1, by omega⟩
  rw [hk]
  conv => lhs; unfold syG
  rw [show n - (k + 1) = a by omega, hs, show n - (a + 1) = k by omega]
theorem syG_n {b : Nat → Int32} {n use a : Nat} {s : sy_S} (h : a < n) (hs : syStep use (b a) s = none) : syG b n use (n - a) s = .inl a := by
  obtain ⟨k, hk⟩ : ∃ k, n - a = k + 1 := ⟨n - a - 1, by omega⟩
  rw [hk]
  unfold syG
  rw [show n - (k + 1) = a by omega, hs]
theorem ng_app (a b : List Int32) : ng (a ++ b) = ng a ++ ng b := List.map_append
theorem cn_app : ∀ (a b : List Int32), cn (a ++ b) = cn a + cn b
  | [], b => by simp [cn]
  | s :: a, b => by
    show (if s = nI 33 then 1 else 0) + cn (a ++ b) = _
    rw [cn_app a b]
    show _ = (if s = nI 33 then 1 else 0) + cn a + cn b
    omega
theorem setl_pend {k : Nat} : ∀ (pend st cs : List Int32) (o : Nat), (∀ s ∈ pend, k ≤ stn s) → setl k (pend ++ st) cs (o + cn pend) = setl k st (cs ++ ng pend) o
  | [], st, cs, o, _ => by simp [cn, ng]
  | s :: p, st, cs, o, h => by
    show (if stn s < k then _ else _) = _
    rw [if_neg (by have := h s List.mem_cons_self; omega)]
    have e : (if s = nI 33 then o + cn (s :: p) - 1 else o + cn (s :: p)) = o + cn p := by
      show (if s = nI 33 then o + ((if s = nI 33 then 1 else 0) + cn p) - 1 else o + ((if s = nI 33 then 1 else 0) + cn p)) = _
      by_cases c : s = nI 33
      · simp only [if_pos c]; omega
      · simp only [if_neg c]; omega
    rw [e]
    refine (setl_pend p st (cs ++ [-s]) o (fun x hx => h x (List.mem_cons_of_mem _ hx))).trans ?_
    simp [ng]
theorem setl_stop {k : Nat} {st cs : List Int32} {o : Nat} (h : topOK st k) : setl k st cs o = (cs, st, o) := by
  cases st with
  | nil => rfl
  | cons s st =>
    show (if stn s < k then _ else _) = _
    rw [if_pos (h s rfl)]
def h3 (pend : List Int32) : Prop := ∃ p1 q p2, pend = p1 ++ q :: p2 ∧ (∀ x ∈ p1, 4 ≤ stn x) ∧ stn q = 3
def nxt (L : Nat) (c : Int32) (pend : List Int32) : Prop := ∀ s, L ≤ s → s ≤ 5 → stn c = s → s = 3 ∧ h3 pend
/-- what a level's reading leaves behind -/
def smR (b : Nat → Int32) (n use L a0 : Nat) (S0 : sy_S) (cs st : List Int32) (o : Nat) (R : rd_T) : Prop :=
  (R.2.2 = true → syG b n use (n - a0) S0 = .inl R.2.1) ∧
  (R.2.2 = false → ∃ pre pend g, R.1.2 = pre ++ ng pend ∧ (∀ s ∈ pend, L ≤ stn s) ∧ syG b n use (n - a0) S0 = syG b n use (n - R.2.1) (cs ++ pre, pend ++ st, o + cn pend, g, false) ∧ 1 ≤ (cs ++ pre).length ∧ (dgt (hr b n R.2.1 false) → g = 0 ∨ 4 ≤ g) ∧ nxt L (hr b n R.2.1 false) pend)
theorem stn_op {c : Int32} {s : Nat} (h : stn c = s) (h1 : 1 ≤ s) (h5 : s ≤ 5) : ¬ (48 ≤ c.toInt ∧ c.toInt < 58) ∧ c ≠ nI 41 := by
  have key : ∀ k, (k = 124 ∨ k = 38 ∨ k = 60 ∨ k = 61 ∨ k = 62 ∨ k = 43 ∨ k = 45 ∨ k = 42 ∨ k = 47 ∨ k = 37) → c = nI k → ¬ (48 ≤ c.toInt ∧ c.toInt < 58) ∧ c ≠ nI 41 := by
    intro k hk hc
    subst hc
    rcases hk with rfl | rfl | rfl | rfl | rfl | rfl | rfl | rfl | rfl | rfl <;> decide +kernel
  have hh : s = 1 ∨ s = 2 ∨ s = 3 ∨ s = 4 ∨ s = 5 := by omega
  rcases hh with rfl | rfl | rfl | rfl | rfl
  · exact key 124 (by simp) (stn_is1 h)
  · exact key 38 (by simp) (stn_is2 h)
  · rcases stn_is3 h with e | e | e
    · exact key 60 (by simp) e
    · exact key 61 (by simp) e
    · exact key 62 (by simp) e
  · rcases stn_is4 h with e | e
    · exact key 43 (by simp) e
    · exact key 45 (by simp) e
  · rcases stn_is5 h with e | e | e
    · exact key 42 (by simp) e
    · exact key 47 (by simp) e
    · exact key 37 (by simp) e
/-- a joining sign behind a worth: what waits is set down -/
theorem sy_join {use L : Nat} {c : Int32} (hs : stn c = L) (h1 : 1 ≤ L) (h5 : L ≤ 5) {pend st cs : List Int32} {o g : Nat} (hp : ∀ s ∈ pend, (if L = 3 then 4 else L) ≤ stn s) (ht : topOK st L) : syStep use c (cs, pend ++ st, o + cn pend, g, false) = some (cs ++ ng pend, c :: st, o, 0, true) := by
  obtain ⟨hd, h41⟩ := stn_op hs h1 h5
  unfold syStep
  rw [if_neg (show ¬ (false = true) by decide)]
  unfold syF
  rw [if_neg hd, if_neg h41, if_neg (by omega)]
  dsimp only
  rw [hs, setl_pend pend st cs o hp, setl_stop (fun s h => by have := ht s h; split <;> omega)]
  unfold syF3
  cases st with
  | nil => rfl
  | cons q st =>
    have := ht q rfl
    dsimp only
    rw [if_neg (by omega)]
