/-! rows of books one after the other; the public calls: order, apart -/
def gd (r : List Nat) (i : Nat) : Nat := r.getD i 0
def sw (r : List Nat) (i j : Nat) : List Nat := (r.set i (gd r j)).set j (gd r i)
def nxI (r : List Nat) : Nat → Option Nat
  | 0 => none
  | i + 1 => if gd r i ≤ gd r (i + 1) then some i else nxI r i
def nxJ (r : List Nat) (i : Nat) : Nat → Nat
  | 0 => 0
  | j + 1 => if j + 1 ≤ i then j + 1 else if gd r (j + 1) < gd r i then nxJ r i j else j + 1
def nxR : Nat → Nat → Nat → List Nat → List Nat
  | 0, _, _, r => r
  | k + 1, lo, hi, r => if lo < hi then nxR k (lo + 1) (hi - 1) (sw r lo hi) else r
def nxG (nb : Nat) (r : List Nat) (i : Nat) : List Nat := nxR 6 (i + 1) (nb - 1) (sw r i (nxJ r i (nb - 1)))
def nx (nb : Nat) (r : List Nat) : Option (List Nat) := (nxI r (nb - 1)).map (nxG nb r)
def okr (nb : Nat) (r : List Nat) : Bool := Nat.beq r.length 6 && ((List.range 6).all (fun i => Nat.blt (gd r i) 6) && ((List.range nb).all (fun i => Nat.blt (gd r i) nb) && ((List.range nb).all (fun b => (List.range nb).any (fun i => Nat.beq (gd r i) b)) && (List.range nb).all (fun i => (List.range nb).all (fun j => Nat.beq i j || !(Nat.beq (gd r i) (gd r j)))))))
def ends (nb : Nat) : Nat → List Nat → Bool
  | 0, _ => false
  | k + 1, r => okr nb r && (match nx nb r with
    | none => true
    | some r' => ends nb k r')
def chk (nb : Nat) : List Nat → List (List Nat) → Bool
  | r, [] => okr nb r && (nx nb r).isNone
  | r, r' :: t => okr nb r && ((match nx nb r with
    | none => false
    | some q => q == r') && chk nb r' t)
theorem ends_s {nb : Nat} : ∀ (k : Nat) (r : List Nat), ends nb k r = true → ends nb (k + 1) r = true
  | 0, r, h => by cases h
  | k + 1, r, h => by
    unfold ends at h ⊢
    rw [Bool.and_eq_true] at h ⊢
    refine ⟨h.1, ?_⟩
    have h2 := h.2
    cases hq : nx nb r with
    | none => rfl
    | some r' =>
      rw [hq] at h2
      exact ends_s k r' h2
theorem ends_le {nb k : Nat} {r : List Nat} (h : ends nb k r = true) : ∀ j, ends nb (k + j) r = true
  | 0 => h
  | j + 1 => ends_s (k + j) r (ends_le h j)
theorem chk_ends {nb : Nat} : ∀ (t : List (List Nat)) (r : List Nat), chk nb r t = true → ends nb (t.length + 1) r = true
  | [], r, h => by
    unfold chk at h
    rw [Bool.and_eq_true] at h
    unfold ends
    rw [Bool.and_eq_true]
    refine ⟨h.1, ?_⟩
    cases hq : nx nb r with
    | none => rfl
    | some r' => rw [hq] at h; exact Bool.noConfusion (show false = true from h.2)
  | r' :: t, r, h => by
    unfold chk at h
    rw [Bool.and_eq_true, Bool.and_eq_true] at h
    unfold ends
    rw [Bool.and_eq_true]
    refine ⟨h.1, ?_⟩
    cases hq : nx nb r with
    | none => rfl
    | some q =>
      rw [hq] at h
      have e : q = r' := eq_of_beq h.2.1
      rw [e]
      exact chk_ends t r' h.2.2
def rows0 : List (List Nat) := []
theorem ends0 : ends 0 720 [0, 1, 2, 3, 4, 5] = true := ends_le (chk_ends rows0 [0, 1, 2, 3, 4, 5] (by decide +kernel)) 719
def rows1 : List (List Nat) := []
theorem ends1 : ends 1 720 [0, 1, 2, 3, 4, 5] = true := ends_le (chk_ends rows1 [0, 1, 2, 3, 4, 5] (by decide +kernel)) 719
def rows2 : List (List Nat) := [[1,0,2,3,4,5]]
theorem ends2 : ends 2 720 [0, 1, 2, 3, 4, 5] = true := ends_le (chk_ends rows2 [0, 1, 2, 3, 4, 5] (by decide +kernel)) 718
def rows3 : List (List Nat) := [[0,2,1,3,4,5], [1,0,2,3,4,5], [1,2,0,3,4,5], [2,0,1,3,4,5], [2,1,0,3,4,5]]
theorem ends3 : ends 3 720 [0, 1, 2, 3, 4, 5] = true := ends_le (chk_ends rows3 [0, 1, 2, 3, 4, 5] (by decide +kernel)) 714
def rows4 : List (List Nat) := [[0,1,3,2,4,5], [0,2,1,3,4,5], [0,2,3,1,4,5], [0,3,1,2,4,5], [0,3,2,1,4,5], [1,0,2,3,4,5], [1,0,3,2,4,5], [1,2,0,3,4,5], [1,2,3,0,4,5], [1,3,0,2,4,5], [1,3,2,0,4,5], [2,0,1,3,4,5], [2,0,3,1,4,5], [2,1,0,3,4,5], [2,1,3,0,4,5], [2,3,0,1,4,5], [2,3,1,0,4,5], [3,0,1,2,4,5], [3,0,2,1,4,5], [3,1,0,2,4,5], [3,1,2,0,4,5], [3,2,0,1,4,5], [3,2,1,0,4,5]]
theorem ends4 : ends 4 720 [0, 1, 2, 3, 4, 5] = true := ends_le (chk_ends rows4 [0, 1, 2, 3, 4, 5] (by decide +kernel)) 696
set_option maxRecDepth 200000 in
def rows5 : List (List Nat) := [[0,1,2,4,3,5], [0,1,3,2,4,5], [0,1,3,4,2,5], [0,1,4,2,3,5], [0,1,4,3,2,5], [0,2,1,3,4,5], [0,2,1,4,3,5], [0,2,3,1,4,5], [0,2,3,4,1,5], [0,2,4,1,3,5], [0,2,4,3,1,5], [0,3,1,2,4,5], [0,3,1,4,2,5], [0,3,2,1,4,5], [0,3,2,4,1,5], [0,3,4,1,2,5], [0,3,4,2,1,5], [0,4,1,2,3,5], [0,4,1,3,2,5], [0,4,2,1,3,5], [0,4,2,3,1,5], [0,4,3,1,2,5], [0,4,3,2,1,5], [1,0,2,3,4,5], [1,0,2,4,3,5], [1,0,3,2,4,5], [1,0,3,4,2,5], [1,0,4,2,3,5], [1,0,4,3,2,5], [1,2,0,3,4,5], [1,2,0,4,3,5], [1,2,3,0,4,5], [1,2,3,4,0,5], [1,2,4,0,3,5], [1,2,4,3,0,5], [1,3,0,2,4,5], [1,3,0,4,2,5], [1,3,2,0,4,5], [1,3,2,4,0,5], [1,3,4,0,2,5], [1,3,4,2,0,5], [1,4,0,2,3,5], [1,4,0,3,2,5], [1,4,2,0,3,5], [1,4,2,3,0,5], [1,4,3,0,2,5], [1,4,3,2,0,5], [2,0,1,3,4,5], [2,0,1,4,3,5], [2,0,3,1,4,5], [2,0,3,4,1,5], [2,0,4,1,3,5], [2,0,4,3,1,5], [2,1,0,3,4,5], [2,1,0,4,3,5], [2,1,3,0,4,5], [2,1,3,4,0,5], [2,1,4,0,3,5], [2,1,4,3,0,5], [2,3,0,1,4,5], [2,3,0,4,1,5], [2,3,1,0,4,5], [2,3,1,4,0,5], [2,3,4,0,1,5], [2,3,4,1,0,5], [2,4,0,1,3,5], [2,4,0,3,1,5], [2,4,1,0,3,5], [2,4,1,3,0,5], [2,4,3,0,1,5], [2,4,3,1,0,5], [3,0,1,2,4,5], [3,0,1,4,2,5], [3,0,2,1,4,5], [3,0,2,4,1,5], [3,0,4,1,2,5], [3,0,4,2,1,5], [3,1,0,2,4,5], [3,1,0,4,2,5], [3,1,2,0,4,5], [3,1,2,4,0,5], [3,1,4,0,2,5], [3,1,4,2,0,5], [3,2,0,1,4,5], [3,2,0,4,1,5], [3,2,1,0,4,5], [3,2,1,4,0,5], [3,2,4,0,1,5], [3,2,4,1,0,5], [3,4,0,1,2,5], [3,4,0,2,1,5], [3,4,1,0,2,5], [3,4,1,2,0,5], [3,4,2,0,1,5], [3,4,2,1,0,5], [4,0,1,2,3,5], [4,0,1,3,2,5], [4,0,2,1,3,5], [4,0,2,3,1,5], [4,0,3,1,2,5], [4,0,3,2,1,5], [4,1,0,2,3,5], [4,1,0,3,2,5], [4,1,2,0,3,5], [4,1,2,3,0,5], [4,1,3,0,2,5], [4,1,3,2,0,5], [4,2,0,1,3,5], [4,2,0,3,1,5], [4,2,1,0,3,5], [4,2,1,3,0,5], [4,2,3,0,1,5], [4,2,3,1,0,5], [4,3,0,1,2,5], [4,3,0,2,1,5], [4,3,1,0,2,5], [4,3,1,2,0,5], [4,3,2,0,1,5], [4,3,2,1,0,5]]
set_option maxRecDepth 200000 in
theorem ends5 : ends 5 720 [0, 1, 2, 3, 4, 5] = true := ends_le (chk_ends rows5 [0, 1, 2, 3, 4, 5] (by decide +kernel)) 600
set_option maxRecDepth 200000 in
def rows6 : List (List Nat) := [[0,1,2,3,5,4], [0,1,2,4,3,5], [0,1,2,4,5,3], [0,1,2,5,3,4], [0,1,2,5,4,3], [0,1,3,2,4,5], [0,1,3,2,5,4], [0,1,3,4,2,5], [0,1,3,4,5,2], [0,1,3,5,2,4], [0,1,3,5,4,2], [0,1,4,2,3,5], [0,1,4,2,5,3], [0,1,4,3,2,5], [0,1,4,3,5,2], [0,1,4,5,2,3], [0,1,4,5,3,2], [0,1,5,2,3,4], [0,1,5,2,4,3], [0,1,5,3,2,4], [0,1,5,3,4,2], [0,1,5,4,2,3], [0,1,5,4,3,2], [0,2,1,3,4,5], [0,2,1,3,5,4], [0,2,1,4,3,5], [0,2,1,4,5,3], [0,2,1,5,3,4], [0,2,1,5,4,3], [0,2,3,1,4,5], [0,2,3,1,5,4], [0,2,3,4,1,5], [0,2,3,4,5,1], [0,2,3,5,1,4], [0,2,3,5,4,1], [0,2,4,1,3,5], [0,2,4,1,5,3], [0,2,4,3,1,5], [0,2,4,3,5,1], [0,2,4,5,1,3], [0,2,4,5,3,1], [0,2,5,1,3,4], [0,2,5,1,4,3], [0,2,5,3,1,4], [0,2,5,3,4,1], [0,2,5,4,1,3], [0,2,5,4,3,1], [0,3,1,2,4,5], [0,3,1,2,5,4], [0,3,1,4,2,5], [0,3,1,4,5,2], [0,3,1,5,2,4], [0,3,1,5,4,2], [0,3,2,1,4,5], [0,3,2,1,5,4], [0,3,2,4,1,5], [0,3,2,4,5,1], [0,3,2,5,1,4], [0,3,2,5,4,1], [0,3,4,1,2,5], [0,3,4,1,5,2], [0,3,4,2,1,5], [0,3,4,2,5,1], [0,3,4,5,1,2], [0,3,4,5,2,1], [0,3,5,1,2,4], [0,3,5,1,4,2], [0,3,5,2,1,4], [0,3,5,2,4,1], [0,3,5,4,1,2], [0,3,5,4,2,1], [0,4,1,2,3,5], [0,4,1,2,5,3], [0,4,1,3,2,5], [0,4,1,3,5,2], [0,4,1,5,2,3], [0,4,1,5,3,2], [0,4,2,1,3,5], [0,4,2,1,5,3], [0,4,2,3,1,5], [0,4,2,3,5,1], [0,4,2,5,1,3], [0,4,2,5,3,1], [0,4,3,1,2,5], [0,4,3,1,5,2], [0,4,3,2,1,5], [0,4,3,2,5,1], [0,4,3,5,1,2], [0,4,3,5,2,1], [0,4,5,1,2,3], [0,4,5,1,3,2], [0,4,5,2,1,3], [0,4,5,2,3,1], [0,4,5,3,1,2], [0,4,5,3,2,1], [0,5,1,2,3,4], [0,5,1,2,4,3], [0,5,1,3,2,4], [0,5,1,3,4,2], [0,5,1,4,2,3], [0,5,1,4,3,2], [0,5,2,1,3,4], [0,5,2,1,4,3], [0,5,2,3,1,4], [0,5,2,3,4,1], [0,5,2,4,1,3], [0,5,2,4,3,1], [0,5,3,1,2,4], [0,5,3,1,4,2], [0,5,3,2,1,4], [0,5,3,2,4,1], [0,5,3,4,1,2], [0,5,3,4,2,1], [0,5,4,1,2,3], [0,5,4,1,3,2], [0,5,4,2,1,3], [0,5,4,2,3,1], [0,5,4,3,1,2], [0,5,4,3,2,1], [1,0,2,3,4,5], [1,0,2,3,5,4], [1,0,2,4,3,5], [1,0,2,4,5,3], [1,0,2,5,3,4], [1,0,2,5,4,3], [1,0,3,2,4,5], [1,0,3,2,5,4], [1,0,3,4,2,5], [1,0,3,4,5,2], [1,0,3,5,2,4], [1,0,3,5,4,2], [1,0,4,2,3,5], [1,0,4,2,5,3], [1,0,4,3,2,5], [1,0,4,3,5,2], [1,0,4,5,2,3], [1,0,4,5,3,2], [1,0,5,2,3,4], [1,0,5,2,4,3], [1,0,5,3,2,4], [1,0,5,3,4,2], [1,0,5,4,2,3], [1,0,5,4,3,2], [1,2,0,3,4,5], [1,2,0,3,5,4], [1,2,0,4,3,5], [1,2,0,4,5,3], [1,2,0,5,3,4], [1,2,0,5,4,3], [1,2,3,0,4,5], [1,2,3,0,5,4], [1,2,3,4,0,5], [1,2,3,4,5,0], [1,2,3,5,0,4], [1,2,3,5,4,0], [1,2,4,0,3,5], [1,2,4,0,5,3], [1,2,4,3,0,5], [1,2,4,3,5,0], [1,2,4,5,0,3], [1,2,4,5,3,0], [1,2,5,0,3,4], [1,2,5,0,4,3], [1,2,5,3,0,4], [1,2,5,3,4,0], [1,2,5,4,0,3], [1,2,5,4,3,0], [1,3,0,2,4,5], [1,3,0,2,5,4], [1,3,0,4,2,5], [1,3,0,4,5,2], [1,3,0,5,2,4], [1,3,0,5,4,2], [1,3,2,0,4,5], [1,3,2,0,5,4], [1,3,2,4,0,5], [1,3,2,4,5,0], [1,3,2,5,0,4], [1,3,2,5,4,0], [1,3,4,0,2,5], [1,3,4,0,5,2], [1,3,4,2,0,5], [1,3,4,2,5,0], [1,3,4,5,0,2], [1,3,4,5,2,0], [1,3,5,0,2,4], [1,3,5,0,4,2], [1,3,5,2,0,4], [1,3,5,2,4,0], [1,3,5,4,0,2], [1,3,5,4,2,0], [1,4,0,2,3,5], [1,4,0,2,5,3], [1,4,0,3,2,5], [1,4,0,3,5,2], [1,4,0,5,2,3], [1,4,0,5,3,2], [1,4,2,0,3,5], [1,4,2,0,5,3], [1,4,2,3,0,5], [1,4,2,3,5,0], [1,4,2,5,0,3], [1,4,2,5,3,0], [1,4,3,0,2,5], [1,4,3,0,5,2], [1,4,3,2,0,5], [1,4,3,2,5,0], [1,4,3,5,0,2], [1,4,3,5,2,0], [1,4,5,0,2,3], [1,4,5,0,3,2], [1,4,5,2,0,3], [1,4,5,2,3,0], [1,4,5,3,0,2], [1,4,5,3,2,0], [1,5,0,2,3,4], [1,5,0,2,4,3], [1,5,0,3,2,4], [1,5,0,3,4,2], [1,5,0,4,2,3], [1,5,0,4,3,2], [1,5,2,0,3,4], [1,5,2,0,4,3], [1,5,2,3,0,4], [1,5,2,3,4,0], [1,5,2,4,0,3], [1,5,2,4,3,0], [1,5,3,0,2,4], [1,5,3,0,4,2], [1,5,3,2,0,4], [1,5,3,2,4,0], [1,5,3,4,0,2], [1,5,3,4,2,0], [1,5,4,0,2,3], [1,5,4,0,3,2], [1,5,4,2,0,3], [1,5,4,2,3,0], [1,5,4,3,0,2], [1,5,4,3,2,0], [2,0,1,3,4,5], [2,0,1,3,5,4], [2,0,1,4,3,5], [2,0,1,4,5,3], [2,0,1,5,3,4], [2,0,1,5,4,3], [2,0,3,1,4,5], [2,0,3,1,5,4], [2,0,3,4,1,5], [2,0,3,4,5,1], [2,0,3,5,1,4], [2,0,3,5,4,1], [2,0,4,1,3,5], [2,0,4,1,5,3], [2,0,4,3,1,5], [2,0,4,3,5,1], [2,0,4,5,1,3], [2,0,4,5,3,1], [2,0,5,1,3,4], [2,0,5,1,4,3], [2,0,5,3,1,4], [2,0,5,3,4,1], [2,0,5,4,1,3], [2,0,5,4,3,1], [2,1,0,3,4,5], [2,1,0,3,5,4], [2,1,0,4,3,5], [2,1,0,4,5,3], [2,1,0,5,3,4], [2,1,0,5,4,3], [2,1,3,0,4,5], [2,1,3,0,5,4], [2,1,3,4,0,5], [2,1,3,4,5,0], [2,1,3,5,0,4], [2,1,3,5,4,0], [2,1,4,0,3,5], [2,1,4,0,5,3], [2,1,4,3,0,5], [2,1,4,3,5,0], [2,1,4,5,0,3], [2,1,4,5,3,0], [2,1,5,0,3,4], [2,1,5,0,4,3], [2,1,5,3,0,4], [2,1,5,3,4,0], [2,1,5,4,0,3], [2,1,5,4,3,0], [2,3,0,1,4,5], [2,3,0,1,5,4], [2,3,0,4,1,5], [2,3,0,4,5,1], [2,3,0,5,1,4], [2,3,0,5,4,1], [2,3,1,0,4,5], [2,3,1,0,5,4], [2,3,1,4,0,5], [2,3,1,4,5,0], [2,3,1,5,0,4], [2,3,1,5,4,0], [2,3,4,0,1,5], [2,3,4,0,5,1], [2,3,4,1,0,5], [2,3,4,1,5,0], [2,3,4,5,0,1], [2,3,4,5,1,0], [2,3,5,0,1,4], [2,3,5,0,4,1], [2,3,5,1,0,4], [2,3,5,1,4,0], [2,3,5,4,0,1], [2,3,5,4,1,0], [2,4,0,1,3,5], [2,4,0,1,5,3], [2,4,0,3,1,5], [2,4,0,3,5,1], [2,4,0,5,1,3], [2,4,0,5,3,1], [2,4,1,0,3,5], [2,4,1,0,5,3], [2,4,1,3,0,5], [2,4,1,3,5,0], [2,4,1,5,0,3], [2,4,1,5,3,0], [2,4,3,0,1,5], [2,4,3,0,5,1], [2,4,3,1,0,5], [2,4,3,1,5,0], [2,4,3,5,0,1], [2,4,3,5,1,0], [2,4,5,0,1,3], [2,4,5,0,3,1], [2,4,5,1,0,3], [2,4,5,1,3,0], [2,4,5,3,0,1], [2,4,5,3,1,0], [2,5,0,1,3,4], [2,5,0,1,4,3], [2,5,0,3,1,4], [2,5,0,3,4,1], [2,5,0,4,1,3], [2,5,0,4,3,1], [2,5,1,0,3,4], [2,5,1,0,4,3], [2,5,1,3,0,4], [2,5,1,3,4,0], [2,5,1,4,0,3], [2,5,1,4,3,0], [2,5,3,0,1,4], [2,5,3,0,4,1], [2,5,3,1,0,4], [2,5,3,1,4,0], [2,5,3,4,0,1], [2,5,3,4,1,0], [2,5,4,0,1,3], [2,5,4,0,3,1], [2,5,4,1,0,3], [2,5,4,1,3,0], [2,5,4,3,0,1], [2,5,4,3,1,0], [3,0,1,2,4,5], [3,0,1,2,5,4], [3,0,1,4,2,5], [3,0,1,4,5,2], [3,0,1,5,2,4], [3,0,1,5,4,2], [3,0,2,1,4,5], [3,0,2,1,5,4], [3,0,2,4,1,5], [3,0,2,4,5,1], [3,0,2,5,1,4], [3,0,2,5,4,1], [3,0,4,1,2,5], [3,0,4,1,5,2], [3,0,4,2,1,5], [3,0,4,2,5,1], [3,0,4,5,1,2], [3,0,4,5,2,1], [3,0,5,1,2,4], [3,0,5,1,4,2], [3,0,5,2,1,4], [3,0,5,2,4,1], [3,0,5,4,1,2], [3,0,5,4,2,1], [3,1,0,2,4,5], [3,1,0,2,5,4], [3,1,0,4,2,5], [3,1,0,4,5,2], [3,1,0,5,2,4], [3,1,0,5,4,2], [3,1,2,0,4,5], [3,1,2,0,5,4], [3,1,2,4,0,5], [3,1,2,4,5,0], [3,1,2,5,0,4], [3,1,2,5,4,0], [3,1,4,0,2,5], [3,1,4,0,5,2], [3,1,4,2,0,5], [3,1,4,2,5,0], [3,1,4,5,0,2], [3,1,4,5,2,0], [3,1,5,0,2,4], [3,1,5,0,4,2], [3,1,5,2,0,4], [3,1,5,2,4,0], [3,1,5,4,0,2], [3,1,5,4,2,0], [3,2,0,1,4,5], [3,2,0,1,5,4], [3,2,0,4,1,5], [3,2,0,4,5,1], [3,2,0,5,1,4], [3,2,0,5,4,1], [3,2,1,0,4,5], [3,2,1,0,5,4], [3,2,1,4,0,5], [3,2,1,4,5,0], [3,2,1,5,0,4], [3,2,1,5,4,0], [3,2,4,0,1,5], [3,2,4,0,5,1], [3,2,4,1,0,5], [3,2,4,1,5,0], [3,2,4,5,0,1], [3,2,4,5,1,0], [3,2,5,0,1,4], [3,2,5,0,4,1], [3,2,5,1,0,4], [3,2,5,1,4,0], [3,2,5,4,0,1], [3,2,5,4,1,0], [3,4,0,1,2,5], [3,4,0,1,5,2], [3,4,0,2,1,5], [3,4,0,2,5,1], [3,4,0,5,1,2], [3,4,0,5,2,1], [3,4,1,0,2,5], [3,4,1,0,5,2], [3,4,1,2,0,5], [3,4,1,2,5,0], [3,4,1,5,0,2], [3,4,1,5,2,0], [3,4,2,0,1,5], [3,4,2,0,5,1], [3,4,2,1,0,5], [3,4,2,1,5,0], [3,4,2,5,0,1], [3,4,2,5,1,0], [3,4,5,0,1,2], [3,4,5,0,2,1], [3,4,5,1,0,2], [3,4,5,1,2,0], [3,4,5,2,0,1], [3,4,5,2,1,0], [3,5,0,1,2,4], [3,5,0,1,4,2], [3,5,0,2,1,4], [3,5,0,2,4,1], [3,5,0,4,1,2], [3,5,0,4,2,1], [3,5,1,0,2,4], [3,5,1,0,4,2], [3,5,1,2,0,4], [3,5,1,2,4,0], [3,5,1,4,0,2], [3,5,1,4,2,0], [3,5,2,0,1,4], [3,5,2,0,4,1], [3,5,2,1,0,4], [3,5,2,1,4,0], [3,5,2,4,0,1], [3,5,2,4,1,0], [3,5,4,0,1,2], [3,5,4,0,2,1], [3,5,4,1,0,2], [3,5,4,1,2,0], [3,5,4,2,0,1], [3,5,4,2,1,0], [4,0,1,2,3,5], [4,0,1,2,5,3], [4,0,1,3,2,5], [4,0,1,3,5,2], [4,0,1,5,2,3], [4,0,1,5,3,2], [4,0,2,1,3,5], [4,0,2,1,5,3], [4,0,2,3,1,5], [4,0,2,3,5,1], [4,0,2,5,1,3], [4,0,2,5,3,1], [4,0,3,1,2,5], [4,0,3,1,5,2], [4,0,3,2,1,5], [4,0,3,2,5,1], [4,0,3,5,1,2], [4,0,3,5,2,1], [4,0,5,1,2,3], [4,0,5,1,3,2], [4,0,5,2,1,3], [4,0,5,2,3,1], [4,0,5,3,1,2], [4,0,5,3,2,1], [4,1,0,2,3,5], [4,1,0,2,5,3], [4,1,0,3,2,5], [4,1,0,3,5,2], [4,1,0,5,2,3], [4,1,0,5,3,2], [4,1,2,0,3,5], [4,1,2,0,5,3], [4,1,2,3,0,5], [4,1,2,3,5,0], [4,1,2,5,0,3], [4,1,2,5,3,0], [4,1,3,0,2,5], [4,1,3,0,5,2], [4,1,3,2,0,5], [4,1,3,2,5,0], [4,1,3,5,0,2], [4,1,3,5,2,0], [4,1,5,0,2,3], [4,1,5,0,3,2], [4,1,5,2,0,3], [4,1,5,2,3,0], [4,1,5,3,0,2], [4,1,5,3,2,0], [4,2,0,1,3,5], [4,2,0,1,5,3], [4,2,0,3,1,5], [4,2,0,3,5,1], [4,2,0,5,1,3], [4,2,0,5,3,1], [4,2,1,0,3,5], [4,2,1,0,5,3], [4,2,1,3,0,5], [4,2,1,3,5,0], [4,2,1,5,0,3], [4,2,1,5,3,0], [4,2,3,0,1,5], [4,2,3,0,5,1], [4,2,3,1,0,5], [4,2,3,1,5,0], [4,2,3,5,0,1], [4,2,3,5,1,0], [4,2,5,0,1,3], [4,2,5,0,3,1], [4,2,5,1,0,3], [4,2,5,1,3,0], [4,2,5,3,0,1], [4,2,5,3,1,0], [4,3,0,1,2,5], [4,3,0,1,5,2], [4,3,0,2,1,5], [4,3,0,2,5,1], [4,3,0,5,1,2], [4,3,0,5,2,1], [4,3,1,0,2,5], [4,3,1,0,5,2], [4,3,1,2,0,5], [4,3,1,2,5,0], [4,3,1,5,0,2], [4,3,1,5,2,0], [4,3,2,0,1,5], [4,3,2,0,5,1], [4,3,2,1,0,5], [4,3,2,1,5,0], [4,3,2,5,0,1], [4,3,2,5,1,0], [4,3,5,0,1,2], [4,3,5,0,2,1], [4,3,5,1,0,2], [4,3,5,1,2,0], [4,3,5,2,0,1], [4,3,5,2,1,0], [4,5,0,1,2,3], [4,5,0,1,3,2], [4,5,0,2,1,3], [4,5,0,2,3,1], [4,5,0,3,1,2], [4,5,0,3,2,1], [4,5,1,0,2,3], [4,5,1,0,3,2], [4,5,1,2,0,3], [4,5,1,2,3,0], [4,5,1,3,0,2], [4,5,1,3,2,0], [4,5,2,0,1,3], [4,5,2,0,3,1], [4,5,2,1,0,3], [4,5,2,1,3,0], [4,5,2,3,0,1], [4,5,2,3,1,0], [4,5,3,0,1,2], [4,5,3,0,2,1], [4,5,3,1,0,2], [4,5,3,1,2,0], [4,5,3,2,0,1], [4,5,3,2,1,0], [5,0,1,2,3,4], [5,0,1,2,4,3], [5,0,1,3,2,4], [5,0,1,3,4,2], [5,0,1,4,2,3], [5,0,1,4,3,2], [5,0,2,1,3,4], [5,0,2,1,4,3], [5,0,2,3,1,4], [5,0,2,3,4,1], [5,0,2,4,1,3], [5,0,2,4,3,1], [5,0,3,1,2,4], [5,0,3,1,4,2], [5,0,3,2,1,4], [5,0,3,2,4,1], [5,0,3,4,1,2], [5,0,3,4,2,1], [5,0,4,1,2,3], [5,0,4,1,3,2], [5,0,4,2,1,3], [5,0,4,2,3,1], [5,0,4,3,1,2], [5,0,4,3,2,1], [5,1,0,2,3,4], [5,1,0,2,4,3], [5,1,0,3,2,4], [5,1,0,3,4,2], [5,1,0,4,2,3], [5,1,0,4,3,2], [5,1,2,0,3,4], [5,1,2,0,4,3], [5,1,2,3,0,4], [5,1,2,3,4,0], [5,1,2,4,0,3], [5,1,2,4,3,0], [5,1,3,0,2,4], [5,1,3,0,4,2], [5,1,3,2,0,4], [5,1,3,2,4,0], [5,1,3,4,0,2], [5,1,3,4,2,0], [5,1,4,0,2,3], [5,1,4,0,3,2], [5,1,4,2,0,3], [5,1,4,2,3,0], [5,1,4,3,0,2], [5,1,4,3,2,0], [5,2,0,1,3,4], [5,2,0,1,4,3], [5,2,0,3,1,4], [5,2,0,3,4,1], [5,2,0,4,1,3], [5,2,0,4,3,1], [5,2,1,0,3,4], [5,2,1,0,4,3], [5,2,1,3,0,4], [5,2,1,3,4,0], [5,2,1,4,0,3], [5,2,1,4,3,0], [5,2,3,0,1,4], [5,2,3,0,4,1], [5,2,3,1,0,4], [5,2,3,1,4,0], [5,2,3,4,0,1], [5,2,3,4,1,0], [5,2,4,0,1,3], [5,2,4,0,3,1], [5,2,4,1,0,3], [5,2,4,1,3,0], [5,2,4,3,0,1], [5,2,4,3,1,0], [5,3,0,1,2,4], [5,3,0,1,4,2], [5,3,0,2,1,4], [5,3,0,2,4,1], [5,3,0,4,1,2], [5,3,0,4,2,1], [5,3,1,0,2,4], [5,3,1,0,4,2], [5,3,1,2,0,4], [5,3,1,2,4,0], [5,3,1,4,0,2], [5,3,1,4,2,0], [5,3,2,0,1,4], [5,3,2,0,4,1], [5,3,2,1,0,4], [5,3,2,1,4,0], [5,3,2,4,0,1], [5,3,2,4,1,0], [5,3,4,0,1,2], [5,3,4,0,2,1], [5,3,4,1,0,2], [5,3,4,1,2,0], [5,3,4,2,0,1], [5,3,4,2,1,0], [5,4,0,1,2,3], [5,4,0,1,3,2], [5,4,0,2,1,3], [5,4,0,2,3,1], [5,4,0,3,1,2], [5,4,0,3,2,1], [5,4,1,0,2,3], [5,4,1,0,3,2], [5,4,1,2,0,3], [5,4,1,2,3,0], [5,4,1,3,0,2], [5,4,1,3,2,0], [5,4,2,0,1,3], [5,4,2,0,3,1], [5,4,2,1,0,3], [5,4,2,1,3,0], [5,4,2,3,0,1], [5,4,2,3,1,0], [5,4,3,0,1,2], [5,4,3,0,2,1], [5,4,3,1,0,2], [5,4,3,1,2,0], [5,4,3,2,0,1], [5,4,3,2,1,0]]
set_option maxRecDepth 200000 in
theorem ends6 : ends 6 720 [0, 1, 2, 3, 4, 5] = true := ends_le (chk_ends rows6 [0, 1, 2, 3, 4, 5] (by decide +kernel)) 0
theorem ends_all {nb : Nat} (h : nb ≤ 6) : ends nb 720 [0, 1, 2, 3, 4, 5] = true := by
  have : nb = 0 ∨ nb = 1 ∨ nb = 2 ∨ nb = 3 ∨ nb = 4 ∨ nb = 5 ∨ nb = 6 := by omega
  rcases this with rfl | rfl | rfl | rfl | rfl | rfl | rfl
  · exact ends0
  · exact ends1
  · exact ends2
  · exact ends3
  · exact ends4
  · exact ends5
  · exact ends6
theorem gd_set {r : List Nat} {i k x : Nat} (hi : i < r.length) : gd (r.set i x) k = if k = i then x else gd r k := by
  unfold gd
  rw [List.getD_eq_getElem?_getD, List.getD_eq_getElem?_getD, List.getElem?_set]
  by_cases h : i = k
  · subst h
    rw [if_pos rfl, if_pos hi, if_pos rfl]
    rfl
  · rw [if_neg h, if_neg (fun q => h q.symm)]
/-- a row of the machine is a list -/
def RWL (f : Nat → Int32) (r : List Nat) : Prop := r.length = 6 ∧ (∀ i, i < 6 → gd r i < 6) ∧ ∀ i, i < 6 → f i = nI (gd r i)
theorem RWL_sw {f : Nat → Int32} {r : List Nat} {i j : Nat} (h : RWL f r) (hi : i < 6) (hj : j < 6) : RWL (upd (upd f i (f j)) j (f i)) (sw r i j) := by
  obtain ⟨h1, h2, h3⟩ := h
  have e : ∀ k, gd (sw r i j) k = if k = j then gd r i else if k = i then gd r j else gd r k := fun k => by
    unfold sw
    rw [gd_set (by rw [List.length_set]; omega)]
    by_cases c : k = j
    · rw [if_pos c, if_pos c]
    · rw [if_neg c, if_neg c, gd_set (by omega)]
  refine ⟨by unfold sw; rw [List.length_set, List.length_set]; exact h1, fun k hk => ?_, fun k hk => ?_⟩
  · rw [e]
    (repeat' split)
    · exact h2 i hi
    · exact h2 j hj
    · exact h2 k hk
  · rw [e]
    by_cases c : k = j
    · subst c; rw [upd_eq, if_pos rfl]; exact h3 i hi
    · rw [upd_ne c, if_neg c]
      by_cases c2 : k = i
      · subst c2; rw [upd_eq, if_pos rfl]; exact h3 j hj
      · rw [upd_ne c2, if_neg c2]; exact h3 k hk
theorem okr_RWL {nb : Nat} {f : Nat → Int32} {r : List Nat} (h : okr nb r = true) (hf : ∀ i, i < 6 → f i = nI (gd r i)) : RWL f r := by
  unfold okr at h
  simp only [Bool.and_eq_true, List.all_eq_true, List.mem_range, Nat.blt_eq, Nat.beq_eq] at h
  exact ⟨h.1, h.2.1, hf⟩
theorem okr_PR {nb : Nat} {r : List Nat} (h : okr nb r = true) (hn : nb ≤ 6) : PR (fun i => nI (gd r i)) nb := by
  unfold okr at h
  simp only [Bool.and_eq_true, List.all_eq_true, List.any_eq_true, List.mem_range, Nat.blt_eq, Nat.beq_eq, Bool.or_eq_true, Bool.not_eq_true'] at h
  obtain ⟨-, h2, h3, h4, h5⟩ := h
  refine ⟨fun i hi => ⟨gd r i, h3 i hi, rfl⟩, fun b hb => ?_, fun i j hi hj e => ?_⟩
  · obtain ⟨i, hi, e⟩ := h4 b hb
    exact ⟨i, hi, by rw [← e]⟩
  · have e' : nI (gd r i) = nI (gd r j) := e
    have a1 := h2 i (by omega)
    have a2 := h2 j (by omega)
    rw [nI_eq9 (by omega) (by omega)] at e'
    rcases h5 i hi j hj with q | q
    · exact q
    · rw [e', Nat.beq_refl] at q; cases q
theorem pnM_dec (i : Nat) (h : i < 2147483648) : nI i + am_k (-1) = pnM i := by
  cases i with
  | zero => decide +kernel
  | succ s => rw [am_k_m1, pk_m1, pnM_s]
theorem c_swap (d i j : Nat) (hi : i < 6) (hj : j < 6) (M : am_M) : am_call (d + 1) i11_swapInRow [.ref 0, .int (nI i), .int (nI j)] M = some (none, am_up (am_up M 56 i (M 56 j)) 56 j (M 56 i)) := by
  rw [ec11_swapInRow]
  simp (disch := omega) only [false_or, nle9, nI_dec9, nI_add, pk_mul, pk_sub, nI_clamp, nI_in9, nI_pos9, nI_lt9, nI_le9, nI_eq9, nI_eq09, nI_le09, am_k_m1, if_true, if_false, ite_not, Classical.not_not]
theorem sw56 {M : am_M} {i j : Nat} : am_up (am_up M 56 i (M 56 j)) 56 j (M 56 i) 56 = upd (upd (M 56) i (M 56 j)) j (M 56 i) := by rw [au_a, au_a]
theorem c_nxR (d : Nat) (x1 x2 : Int32) : ∀ (k lo hi : Nat) (r : List Nat) (M : am_M), RWL (M 56) r → hi < 6 → lo ≤ 6 → hi < lo + 2 * k + 1 → ∃ M', am_lim (am_call (d + 1)) (am_R i11_nextRow) (am_tx i11_nextRow) 100 [.ref 0, .int x1, .int x2, .int (nI lo), .int (nI hi)] [] M = some (some (.int (nI 1)), M') ∧ RWL (M' 56) (nxR k lo hi r) ∧ Ch [56] M M'
  | 0, lo, hi, r, M, h, hh, hl, hf => by
    rw [sg11_nextRow_100]
    simp (disch := omega) only [nI_lt9]
    rw [if_neg (by omega)]
    exact ⟨M, rfl, h, Ch_rf⟩
  | k + 1, lo, hi, r, M, h, hh, hl, hf => by
    rw [sg11_nextRow_100]
    simp (disch := omega) only [nI_lt9]
    unfold nxR
    by_cases c : lo < hi
    · rw [if_pos c, if_pos c, c_swap d lo hi (by omega) hh]
      simp only [Option.bind_some, Option.toList_some, Option.toList_none, List.cons_append, List.nil_append, bi_eq0, bi_eq1, bi_nem, if_true, if_false, ite_not, Classical.not_not, sg11_nextRow_113]
      rw [am_k_m1, nI_dec9 (by omega), nI_add]
      obtain ⟨M2, b1, b2, b3⟩ := c_nxR d x1 x2 k (lo + 1) (hi - 1) (sw r lo hi) (am_up (am_up M 56 lo (M 56 hi)) 56 hi (M 56 lo)) (by rw [sw56]; exact RWL_sw h (by omega) hh) (by omega) (by omega) (by omega)
      exact ⟨M2, b1, b2, Ch_tr (Ch_tr (Ch_up (by decide)) (Ch_up (by decide))) b3⟩
    · rw [if_neg c, if_neg c]
      exact ⟨M, rfl, h, Ch_rf⟩
theorem c_nxJ (C : am_H) (r : List Nat) (i : Nat) (M : am_M) (h : RWL (M 56) r) : ∀ (j : Nat), i ≤ j → j < 6 → am_lim C (am_R i11_nextRow) (am_tx i11_nextRow) 53 [.ref 0, .int (nI i), .int (nI j), .null, .null] [] M = (C i11_swapInRow [.ref 0, .int (nI i), .int (nI (nxJ r i j))] M).bind (fun q => am_lim C (am_R i11_nextRow) (am_tx i11_nextRow) 85 [.ref 0, .int (nI i), .int (nI (nxJ r i j)), .null, .null] (q.1.toList ++ []) q.2)
  | 0, h1, h2 => by
    have : i = 0 := by omega
    subst this
    rw [sg11_nextRow_53, if_pos (by decide +kernel)]
    rfl
  | j + 1, h1, h2 => by
    rw [sg11_nextRow_53]
    simp (disch := omega) only [nI_le9]
    unfold nxJ
    by_cases c : j + 1 ≤ i
    · rw [if_pos c, if_pos c]
    · rw [if_neg c, if_neg c]
      have b1 := h.2.1 (j + 1) h2
      have b2 := h.2.1 i (by omega)
      simp (disch := omega) only [false_or, nle9, nI_dec9, nI_add, pk_mul, pk_sub, nI_clamp, nI_in9, nI_pos9, nI_lt9, nI_le9, nI_eq9, nI_eq09, nI_le09, am_k_m1, if_true, if_false, ite_not, Classical.not_not]
      rw [h.2.2 (j + 1) h2, h.2.2 i (by omega)]
      simp (disch := omega) only [nI_lt9]
      by_cases c2 : gd r (j + 1) < gd r i
      · rw [if_pos c2, if_pos c2, Nat.add_sub_cancel]
        exact c_nxJ C r i M h j (by omega) (by omega)
      · rw [if_neg c2, if_neg c2]
theorem c_nxI (C : am_H) (r : List Nat) (M : am_M) (h : RWL (M 56) r) : ∀ (n : Nat), n < 6 → am_lim C (am_R i11_nextRow) (am_tx i11_nextRow) 10 [.ref 0, .int (pnM n), .null, .null, .null] [] M = match nxI r n with
    | none => some (some (.int (nI 0)), M)
    | some i => am_lim C (am_R i11_nextRow) (am_tx i11_nextRow) 53 [.ref 0, .int (nI i), .int (M 9 7 - nI 1), .null, .null] [] M
  | 0, hn => by
    rw [sg11_nextRow_10, pnM_0, if_pos (by decide +kernel), if_pos (by decide +kernel)]
    rfl
  | i + 1, hn => by
    rw [sg11_nextRow_10, pnM_s]
    have b1 := h.2.1 i (by omega)
    have b2 := h.2.1 (i + 1) (by omega)
    rw [if_neg (nI_pos (by omega)), nI_add]
    simp (disch := omega) only [nI_clamp, nI_in9, if_false]
    rw [h.2.2 i (by omega), h.2.2 (i + 1) (by omega)]
    simp (disch := omega) only [nI_le9]
    unfold nxI
    by_cases c : gd r i ≤ gd r (i + 1)
    · rw [if_pos c, if_pos c, if_neg (nI_pos (by omega))]
    · rw [if_neg c, if_neg c, pnM_dec i (by omega)]
      exact c_nxI C r M h i (by omega)
theorem nb_m2 {nb : Nat} (h1 : 1 ≤ nb) (h : nb ≤ 6) : nI nb - nI 2 = pnM (nb - 1) := by
  have : nb = 1 ∨ nb = 2 ∨ nb = 3 ∨ nb = 4 ∨ nb = 5 ∨ nb = 6 := by omega
  rcases this with rfl | rfl | rfl | rfl | rfl | rfl <;> decide +kernel
theorem nxI_lt (r : List Nat) : ∀ (n i : Nat), nxI r n = some i → i < n
  | 0, i, h => by cases h
  | n + 1, i, h => by
    unfold nxI at h
    by_cases c : gd r n ≤ gd r (n + 1)
    · rw [if_pos c] at h; cases h; omega
    · rw [if_neg c] at h
      have := nxI_lt r n i h
      omega
theorem nxJ_r (r : List Nat) (i : Nat) : ∀ j, nxJ r i j ≤ j
  | 0 => Nat.le_refl _
  | j + 1 => by
    unfold nxJ
    have := nxJ_r r i j
    (repeat' split) <;> omega
def nxB (o : Option (List Nat)) : Int32 := match o with
  | none => nI 0
  | some _ => nI 1
theorem c_nextRow (d nb : Nat) (hn : nb ≤ 6) (r : List Nat) (M : am_M) (h7 : M 9 7 = nI nb) (h : RWL (M 56) r) : ∃ M', am_call (d + 2) i11_nextRow [.ref 0] M = some (some (.int (nxB (nx nb r))), M') ∧ Ch [56] M M' ∧ ∀ r', nx nb r = some r' → RWL (M' 56) r' := by
  rw [ec11_nextRow, h7]
  by_cases c0 : nb = 0
  · subst c0
    rw [sg11_nextRow_10, if_pos (by decide +kernel), if_pos (by decide +kernel)]
    exact ⟨M, rfl, Ch_rf, fun r' q => by cases q⟩
  · rw [nb_m2 (by omega) hn, c_nxI _ r M h (nb - 1) (by omega)]
    unfold nx
    cases hI : nxI r (nb - 1) with
    | none => exact ⟨M, rfl, Ch_rf, fun r' q => by cases q⟩
    | some i =>
      have hi := nxI_lt r _ _ hI
      have hj := nxJ_r r i (nb - 1)
      show ∃ M', am_lim (am_call (d + 1)) (am_R i11_nextRow) (am_tx i11_nextRow) 53 [.ref 0, .int (nI i), .int (M 9 7 - nI 1), .null, .null] [] M = some (some (.int (nI 1)), M') ∧ Ch [56] M M' ∧ ∀ r', some (nxG nb r i) = some r' → RWL (M' 56) r'
      rw [h7, pk_sub (by omega), c_nxJ _ r i M h (nb - 1) (by omega) (by omega), c_swap d i (nxJ r i (nb - 1)) (by omega) (by omega)]
      simp only [Option.bind_some, Option.toList_some, Option.toList_none, List.cons_append, List.nil_append, bi_eq0, bi_eq1, bi_nem, if_true, if_false, ite_not, Classical.not_not, sg11_nextRow_85]
      rw [au_b (by decide), au_b (by decide), h7, pk_sub (by omega), nI_add]
      obtain ⟨M2, b1, b2, b3⟩ := c_nxR d (nI i) (nI (nxJ r i (nb - 1))) 6 (i + 1) (nb - 1) (sw r i (nxJ r i (nb - 1))) (am_up (am_up M 56 i (M 56 (nxJ r i (nb - 1)))) 56 (nxJ r i (nb - 1)) (M 56 i)) (by rw [sw56]; exact RWL_sw h (by omega) (by omega)) (by omega) (by omega) (by omega)
      exact ⟨M2, b1, Ch_tr (Ch_tr (Ch_up (by decide)) (Ch_up (by decide))) b3, fun r' q => by cases q; exact b2⟩
/-! the reference's -/
theorem sw75 {M : am_M} {i j : Nat} : am_up (am_up M 75 i (M 75 j)) 75 j (M 75 i) 75 = upd (upd (M 75) i (M 75 j)) j (M 75 i) := by rw [au_a, au_a]
theorem m_nxR (C : am_H) (x1 x2 x3 : Int32) : ∀ (k lo hi : Nat) (r : List Nat) (x4 : Int32) (M : am_M), RWL (M 75) r → hi < 6 → lo ≤ 6 → hi < lo + 2 * k + 1 → ∃ M', am_lim C (am_R i12_nextRow) (am_tx i12_nextRow) 107 [.ref 68, .int x1, .int x2, .int x3, .int x4, .int (nI hi), .int (nI lo)] [] M = some (some (.int (nI 1)), M') ∧ RWL (M' 75) (nxR k lo hi r) ∧ J6 [75] M M'
  | 0, lo, hi, r, x4, M, h, hh, hl, hf => by
    rw [sg12_nextRow_107]
    simp (disch := omega) only [nI_lt9]
    rw [if_neg (by omega)]
    exact ⟨M, rfl, h, J6_rf⟩
  | k + 1, lo, hi, r, x4, M, h, hh, hl, hf => by
    rw [sg12_nextRow_107]
    simp (disch := omega) only [nI_lt9]
    unfold nxR
    by_cases c : lo < hi
    · rw [if_pos c, if_pos c]
      simp (disch := omega) only [false_or, nle9, nI_dec9, nI_add, pk_mul, pk_sub, nI_clamp, nI_in9, nI_pos9, nI_lt9, nI_le9, nI_eq9, nI_eq09, nI_le09, am_k_m1, if_true, if_false, ite_not, Classical.not_not]
      obtain ⟨M2, b1, b2, b3⟩ := m_nxR C x1 x2 x3 k (lo + 1) (hi - 1) (sw r lo hi) (M 75 lo) (am_up (am_up M 75 lo (M 75 hi)) 75 hi (M 75 lo)) (by rw [sw75]; exact RWL_sw h (by omega) hh) (by omega) (by omega) (by omega)
      exact ⟨M2, b1, b2, J6_tr (J6_tr (J6_up (by decide) (by decide)) (J6_up (by decide) (by decide))) b3⟩
    · rw [if_neg c, if_neg c]
      exact ⟨M, rfl, h, J6_rf⟩
theorem m_nxJ (C : am_H) (r : List Nat) (x1 : Int32) (i : Nat) (M : am_M) (h : RWL (M 75) r) : ∀ (j : Nat), i ≤ j → j < 6 → am_lim C (am_R i12_nextRow) (am_tx i12_nextRow) 48 [.ref 68, .int x1, .int (nI i), .int (nI j), .null, .null, .null] [] M = am_lim C (am_R i12_nextRow) (am_tx i12_nextRow) 107 [.ref 68, .int x1, .int (nI i), .int (nI (nxJ r i j)), .int (M 75 i), .int (x1 - nI 1), .int (nI (i + 1))] [] (am_up (am_up M 75 i (M 75 (nxJ r i j))) 75 (nxJ r i j) (M 75 i))
  | 0, h1, h2 => by
    have : i = 0 := by omega
    subst this
    rw [sg12_nextRow_48]
    simp (disch := omega) only [false_or, nle9, nI_dec9, nI_add, pk_mul, pk_sub, nI_clamp, nI_in9, nI_pos9, nI_lt9, nI_le9, nI_eq9, nI_eq09, nI_le09, am_k_m1, if_true, if_false, ite_not, Classical.not_not]
    rw [if_neg (by rw [i32_lt]; omega)]
    rfl
  | j + 1, h1, h2 => by
    rw [sg12_nextRow_48]
    have b1 := h.2.1 (j + 1) h2
    have b2 := h.2.1 i (by omega)
    simp (disch := omega) only [false_or, nle9, nI_dec9, nI_add, pk_mul, pk_sub, nI_clamp, nI_in9, nI_pos9, nI_lt9, nI_le9, nI_eq9, nI_eq09, nI_le09, am_k_m1, if_true, if_false, ite_not, Classical.not_not]
    have e1 := h.2.2 (j + 1) h2
    have e2 := h.2.2 i (by omega)
    have hlt : (M 75 (j + 1) < M 75 i) = (gd r (j + 1) < gd r i) := by rw [e1, e2, nI_lt9 (by omega) (by omega)]
    simp only [hlt]
    unfold nxJ
    by_cases c2 : gd r (j + 1) < gd r i
    · have c : ¬ j + 1 ≤ i := fun q => by
        have : i = j + 1 := by omega
        subst this
        omega
      rw [if_pos c2, if_neg c, if_pos c2, Nat.add_sub_cancel]
      exact m_nxJ C r x1 i M h j (by omega) (by omega)
    · rw [if_neg c2, if_neg c2, ite_self]
theorem m_nxI (C : am_H) (r : List Nat) (x1 : Int32) (M : am_M) (h : RWL (M 75) r) : ∀ (n : Nat), n < 6 → am_lim C (am_R i12_nextRow) (am_tx i12_nextRow) 11 [.ref 68, .int x1, .int (pnM n), .null, .null, .null, .null] [] M = match nxI r n with
    | none => some (some (.int (nI 0)), M)
    | some i => am_lim C (am_R i12_nextRow) (am_tx i12_nextRow) 48 [.ref 68, .int x1, .int (nI i), .int (x1 - nI 1), .null, .null, .null] [] M
  | 0, hn => by
    rw [sg12_nextRow_11, pnM_0, if_pos (by decide +kernel), if_pos (by decide +kernel)]
    rfl
  | i + 1, hn => by
    rw [sg12_nextRow_11, pnM_s]
    have b1 := h.2.1 i (by omega)
    have b2 := h.2.1 (i + 1) (by omega)
    rw [if_neg (nI_pos (by omega)), nI_add]
    simp (disch := omega) only [nI_clamp, nI_in9, if_false]
    rw [h.2.2 i (by omega), h.2.2 (i + 1) (by omega)]
    simp (disch := omega) only [nI_le9]
    unfold nxI
    by_cases c : gd r i ≤ gd r (i + 1)
    · rw [if_pos c, if_pos c, if_neg (nI_pos (by omega))]
    · rw [if_neg c, if_neg c, pnM_dec i (by omega)]
      exact m_nxI C r x1 M h i (by omega)
theorem m_nextRow (d nb : Nat) (hn : nb ≤ 6) (r : List Nat) (M : am_M) (h7 : M 69 1 = nI nb) (h : RWL (M 75) r) : ∃ M', am_call (d + 1) i12_nextRow [.ref 68] M = some (some (.int (nxB (nx nb r))), M') ∧ J6 [75] M M' ∧ ∀ r', nx nb r = some r' → RWL (M' 75) r' := by
  rw [ec12_nextRow, h7]
  by_cases c0 : nb = 0
  · subst c0
    rw [sg12_nextRow_11, if_pos (by decide +kernel), if_pos (by decide +kernel)]
    exact ⟨M, rfl, J6_rf, fun r' q => by cases q⟩
  · rw [nb_m2 (by omega) hn, m_nxI _ r _ M h (nb - 1) (by omega)]
    unfold nx
    cases hI : nxI r (nb - 1) with
    | none => exact ⟨M, rfl, J6_rf, fun r' q => by cases q⟩
    | some i =>
      have hi := nxI_lt r _ _ hI
      have hj := nxJ_r r i (nb - 1)
      show ∃ M', am_lim (am_call d) (am_R i12_nextRow) (am_tx i12_nextRow) 48 [.ref 68, .int (nI nb), .int (nI i), .int (nI nb - nI 1), .null, .null, .null] [] M = some (some (.int (nI 1)), M') ∧ J6 [75] M M' ∧ ∀ r', some (nxG nb r i) = some r' → RWL (M' 75) r'
      rw [pk_sub (by omega), m_nxJ _ r (nI nb) i M h (nb - 1) (by omega) (by omega), pk_sub (by omega)]
      obtain ⟨M2, b1, b2, b3⟩ := m_nxR (am_call d) (nI nb) (nI i) (nI (nxJ r i (nb - 1))) 6 (i + 1) (nb - 1) (sw r i (nxJ r i (nb - 1))) (M 75 i) (am_up (am_up M 75 i (M 75 (nxJ r i (nb - 1)))) 75 (nxJ r i (nb - 1)) (M 75 i)) (by rw [sw75]; exact RWL_sw h (by omega) (by omega)) (by omega) (by omega) (by omega)
      exact ⟨M2, b1, J6_tr (J6_tr (J6_up (by decide) (by decide)) (J6_up (by decide) (by decide))) b3, fun r' q => by cases q; exact b2⟩
