/-! A NEW PAIR -/
def am_M0 : am_M := fun a => bif Nat.beq a 30 || Nat.beq a 41 then (fun j => bif Nat.beq j 4 then 1 else 0) else bif Nat.beq a 69 then upd (upd (upd (fun _ => 0) 62 1) 65 (-1)) 66 (-1) else fun _ => 0
theorem am_M0_69 {j : Nat} (h1 : j ≠ 62) (h2 : j ≠ 65) (h3 : j ≠ 66) : am_M0 69 j = 0 := by
  show upd (upd (upd (fun _ => 0) 62 1) 65 (-1)) 66 (-1) j = 0
  simp [upd, h1, h2, h3]
theorem IV_0 : IV am_M0 am_M0 := by
  refine ⟨⟨0, 0, ⟨rfl, by decide, rfl, fun b hb => absurd hb (Nat.not_lt_zero _), ?_⟩, by decide, ⟨rfl, rfl, fun b hb => absurd hb (Nat.not_lt_zero _), fun i hi => absurd hi (Nat.not_lt_zero _), fun b _ _ => rfl, fun b _ _ p _ => rfl⟩, ⟨⟨0, by decide, rfl⟩, rfl, fun i hi => ?_, rfl, ⟨0, by decide, rfl⟩, rfl, fun i hi => ?_, Or.inl ⟨rfl, rfl⟩, Or.inl ⟨rfl, rfl⟩⟩⟩, rfl, Or.inl rfl, fun k hk => rfl, ⟨0, by decide, rfl, rfl, fun i hi => absurd hi (Nat.not_lt_zero _)⟩, fun h hh => ⟨?_, ?_, 0, by decide, ?_, fun i hi => absurd hi (Nat.not_lt_zero _)⟩⟩
  · exact ⟨fun i hi => absurd hi (Nat.not_lt_zero _), fun b hb => absurd hb (Nat.not_lt_zero _), fun i j hi => absurd hi (Nat.not_lt_zero _)⟩
  · rw [am_M0_69 (by omega) (by omega) (by omega)]; rfl
  · rw [am_M0_69 (by omega) (by omega) (by omega)]; rfl
  · rfl
  · rfl
  · rfl
/-- the world of a new pair, in the order in which its cells are made -/
def fr_w (ad : Nat → Nat) (c4 : am_T4) : va_W := [((ad 0), .inr (11, [.ref (ad 9), .ref (ad 30), .ref (ad 16), .ref (ad 41), .int 0, .ref (ad 23), .ref (ad 56), .ref (ad 57), .ref (ad 52), .ref (ad 58), .ref (ad 60), .ref (ad 61), .ref (ad 62), .ref (ad 67)])), ((ad 1), .inl (c4.2.2.1, 7, .inr (.inr (.inr (.inr (fun i => (([2, 3, 4, 5, 6, 7, 8] : List Nat)[i]?).map ad)))))), ((ad 2), .inr (5, [])), ((ad 3), .inr (3, [])), ((ad 4), .inr (7, [])), ((ad 5), .inr (6, [])), ((ad 6), .inr (2, [])), ((ad 7), .inr (4, [])), ((ad 8), .inr (0, [])), ((ad 9), .inr (8, [.ref (ad 1), .ref (ad 10), .ref (ad 11), .ref (ad 12), .ref (ad 13), .ref (ad 14), .ref (ad 15), .int 0, .int 0])), ((ad 10), .inl (c4.1, 6, .inl (fun _ => 0))), ((ad 11), .inl (c4.1, 6, .inl (fun _ => 0))), ((ad 12), .inl (c4.2.1, 6, .inl (fun _ => 0))), ((ad 13), .inl (c4.1, 36, .inl (fun _ => 0))), ((ad 14), .inl (c4.1, 6, .inl (fun _ => 0))), ((ad 15), .inl (c4.1, 6, .inl (fun _ => 0))), ((ad 30), .inr (1, [.ref (ad 31), .int 0, .ref (ad 33), .ref (ad 37), .int 1, .ref (ad 32), .int 0])), ((ad 31), .inl (c4.1, 50, .inl (fun _ => 0))), ((ad 33), .inr (10, [.ref (ad 34), .int 0, .ref (ad 35), .ref (ad 36), .int 0, .int 0, .int 0, .int 0])), ((ad 34), .inl (c4.1, 50, .inl (fun _ => 0))), ((ad 35), .inl (c4.1, 50, .inl (fun _ => 0))), ((ad 36), .inl (c4.1, 50, .inl (fun _ => 0))), ((ad 37), .inr (10, [.ref (ad 38), .int 0, .ref (ad 39), .ref (ad 40), .int 0, .int 0, .int 0, .int 0])), ((ad 38), .inl (c4.1, 50, .inl (fun _ => 0))), ((ad 39), .inl (c4.1, 50, .inl (fun _ => 0))), ((ad 40), .inl (c4.1, 50, .inl (fun _ => 0))), ((ad 32), .inl (c4.1, 20, .inl (fun _ => 0))), ((ad 16), .inr (8, [.ref (ad 1), .ref (ad 17), .ref (ad 18), .ref (ad 19), .ref (ad 20), .ref (ad 21), .ref (ad 22), .int 0, .int 0])), ((ad 17), .inl (c4.1, 6, .inl (fun _ => 0))), ((ad 18), .inl (c4.1, 6, .inl (fun _ => 0))), ((ad 19), .inl (c4.2.1, 6, .inl (fun _ => 0))), ((ad 20), .inl (c4.1, 36, .inl (fun _ => 0))), ((ad 21), .inl (c4.1, 6, .inl (fun _ => 0))), ((ad 22), .inl (c4.1, 6, .inl (fun _ => 0))), ((ad 41), .inr (1, [.ref (ad 42), .int 0, .ref (ad 44), .ref (ad 48), .int 1, .ref (ad 43), .int 0])), ((ad 42), .inl (c4.1, 50, .inl (fun _ => 0))), ((ad 44), .inr (10, [.ref (ad 45), .int 0, .ref (ad 46), .ref (ad 47), .int 0, .int 0, .int 0, .int 0])), ((ad 45), .inl (c4.1, 50, .inl (fun _ => 0))), ((ad 46), .inl (c4.1, 50, .inl (fun _ => 0))), ((ad 47), .inl (c4.1, 50, .inl (fun _ => 0))), ((ad 48), .inr (10, [.ref (ad 49), .int 0, .ref (ad 50), .ref (ad 51), .int 0, .int 0, .int 0, .int 0])), ((ad 49), .inl (c4.1, 50, .inl (fun _ => 0))), ((ad 50), .inl (c4.1, 50, .inl (fun _ => 0))), ((ad 51), .inl (c4.1, 50, .inl (fun _ => 0))), ((ad 43), .inl (c4.1, 20, .inl (fun _ => 0))), ((ad 23), .inr (8, [.ref (ad 1), .ref (ad 24), .ref (ad 25), .ref (ad 26), .ref (ad 27), .ref (ad 28), .ref (ad 29), .int 0, .int 0])), ((ad 24), .inl (c4.1, 6, .inl (fun _ => 0))), ((ad 25), .inl (c4.1, 6, .inl (fun _ => 0))), ((ad 26), .inl (c4.2.1, 6, .inl (fun _ => 0))), ((ad 27), .inl (c4.1, 36, .inl (fun _ => 0))), ((ad 28), .inl (c4.1, 6, .inl (fun _ => 0))), ((ad 29), .inl (c4.1, 6, .inl (fun _ => 0))), ((ad 56), .inl (c4.1, 6, .inl (fun _ => 0))), ((ad 57), .inl (c4.1, 6, .inl (fun _ => 0))), ((ad 52), .inr (10, [.ref (ad 53), .int 0, .ref (ad 54), .ref (ad 55), .int 0, .int 0, .int 0, .int 0])), ((ad 53), .inl (c4.1, 50, .inl (fun _ => 0))), ((ad 54), .inl (c4.1, 50, .inl (fun _ => 0))), ((ad 55), .inl (c4.1, 50, .inl (fun _ => 0))), ((ad 58), .inr (9, [.ref (ad 59), .int 0, .int 0, .int 0])), ((ad 59), .inl (c4.1, 40, .inl (fun _ => 0))), ((ad 60), .inl (c4.1, 4, .inl (fun _ => 0))), ((ad 61), .inl (c4.1, 4, .inl (fun _ => 0))), ((ad 62), .inl (c4.2.2.2, 4, .inr (.inr (.inr (.inr (fun i => (([63, 64, 65, 66] : List Nat)[i]?).map ad)))))), ((ad 63), .inl (c4.1, 40, .inl (fun _ => 0))), ((ad 64), .inl (c4.1, 40, .inl (fun _ => 0))), ((ad 65), .inl (c4.1, 40, .inl (fun _ => 0))), ((ad 66), .inl (c4.1, 40, .inl (fun _ => 0))), ((ad 67), .inl (c4.1, 6, .inl (fun _ => 0))), ((ad 68), .inr (12, [.ref (ad 69), .ref (ad 70), .ref (ad 71), .ref (ad 72), .int 0, .int 0, .int 0, .int 0, .int 0, .int 0, .int 0, .int 0, .int 0, .int 0, .ref (ad 73), .ref (ad 74), .ref (ad 75), .ref (ad 76), .ref (ad 77), .int 0, .int 0, .int 0, .int 0, .ref (ad 78), .ref (ad 79), .ref (ad 80), .ref (ad 81)])), ((ad 69), .inl (c4.1, 237, .inl (upd (upd (upd (fun _ => 0) 62 1) 65 (-1)) 66 (-1)))), ((ad 70), .inl (c4.1, 237, .inl (fun _ => 0))), ((ad 71), .inl (c4.1, 62, .inl (fun _ => 0))), ((ad 72), .inl (c4.1, 6, .inl (fun _ => 0))), ((ad 73), .inl (c4.1, 6, .inl (fun _ => 0))), ((ad 74), .inl (c4.1, 6, .inl (fun _ => 0))), ((ad 75), .inl (c4.1, 6, .inl (fun _ => 0))), ((ad 76), .inl (c4.1, 6, .inl (fun _ => 0))), ((ad 77), .inl (c4.1, 40, .inl (fun _ => 0))), ((ad 78), .inl (c4.1, 4, .inl (fun _ => 0))), ((ad 79), .inl (c4.1, 4, .inl (fun _ => 0))), ((ad 80), .inl (c4.1, 160, .inl (fun _ => 0))), ((ad 81), .inl (c4.1, 40, .inl (fun _ => 0)))]
def flz (ad : Nat → Nat) (g : Nat → Int32) : List Nat → Nat → List Value
  | [], _ => []
  | 0 :: l, s => .int (g s) :: flz ad g l (s + 1)
  | (q + 1) :: l, s => .ref (ad q) :: flz ad g l (s + 1)
theorem fr_z (ad : Nat → Nat) (g : Nat → Int32) : ∀ (l : List Nat) (s : Nat), l.mapIdx (fun j f => match f with
  | 0 => Value.int (g (j + s))
  | q + 1 => .ref (ad q)) = flz ad g l s
  | [], s => rfl
  | a :: l, s => by
    rw [List.mapIdx_cons]
    have e : (fun (i : Nat) (f : Nat) => (match f with
      | 0 => Value.int (g (i + 1 + s))
      | q + 1 => .ref (ad q) : Value)) = fun (i : Nat) (f : Nat) => (match f with
      | 0 => Value.int (g (i + (s + 1)))
      | q + 1 => .ref (ad q) : Value) := by
      funext i f
      rw [show i + 1 + s = i + (s + 1) by omega]
    have e2 := (congrArg (fun h => l.mapIdx h) e).trans (fr_z ad g l (s + 1))
    cases a with
    | zero =>
      show Value.int (g (0 + s)) :: _ = Value.int (g s) :: _
      rw [Nat.zero_add]
      exact congrArg _ e2
    | succ q => exact congrArg _ e2
theorem fr_o {ad : Nat → Nat} {c4 : am_T4} {M : am_M} {k ci : Nat} {l : List Nat} (e : shp k = (0, ci, l)) : am_cl ad c4 M k = .inr (ci, flz ad (M k) l 0) := by
  rw [am_cl_0 e]
  unfold am_fl
  rw [e]
  exact congrArg (fun z => (Sum.inr (ci, z) : va_E)) (fr_z ad (M k) l 0)
def fr_all (P : Nat → Prop) : Nat → Prop
  | 0 => True
  | n + 1 => P n ∧ fr_all P n
theorem fr_all_of {P : Nat → Prop} : ∀ (n : Nat), fr_all P n → ∀ k, k < n → P k
  | 0, _, k, hk => absurd hk (Nat.not_lt_zero _)
  | n + 1, h, k, hk => by
    by_cases e : k = n
    · subst e; exact h.1
    · exact fr_all_of n h.2 k (by omega)
def fr_pm : List Nat := [0, 1, 2, 3, 4, 5, 6, 7, 8, 9, 10, 11, 12, 13, 14, 15, 27, 28, 29, 30, 31, 32, 33, 45, 46, 47, 48, 49, 50, 51, 16, 17, 26, 18, 19, 20, 21, 22, 23, 24, 25, 34, 35, 44, 36, 37, 38, 39, 40, 41, 42, 43, 54, 55, 56, 57, 52, 53, 58, 59, 60, 61, 62, 63, 64, 65, 66, 67, 68, 69, 70, 71, 72, 73, 74, 75, 76, 77, 78, 79, 80, 81]
theorem fr_p0 {D : va_G} {ad : Nat → Nat} {c4 : am_T4} {H : Heap} (h : va_P D vwCl (fr_w ad c4) H) : va_at D vwCl (ad 0, am_cl ad c4 am_M0 0) H := by
  rw [fr_o (show shp 0 = (0, 11, [10, 31, 17, 42, 0, 24, 57, 58, 53, 59, 61, 62, 63, 68]) from rfl)]
  exact h 0 _ rfl
theorem fr_p1 {D : va_G} {ad : Nat → Nat} {c4 : am_T4} {H : Heap} (h : va_P D vwCl (fr_w ad c4) H) : va_at D vwCl (ad 1, am_cl ad c4 am_M0 1) H := by
  rw [am_cl_3 (show shp 1 = (3, 7, [2, 3, 4, 5, 6, 7, 8]) from rfl)]
  exact h 1 _ rfl
theorem fr_p2 {D : va_G} {ad : Nat → Nat} {c4 : am_T4} {H : Heap} (h : va_P D vwCl (fr_w ad c4) H) : va_at D vwCl (ad 2, am_cl ad c4 am_M0 2) H := by
  rw [fr_o (show shp 2 = (0, 5, []) from rfl)]
  exact h 2 _ rfl
theorem fr_p3 {D : va_G} {ad : Nat → Nat} {c4 : am_T4} {H : Heap} (h : va_P D vwCl (fr_w ad c4) H) : va_at D vwCl (ad 3, am_cl ad c4 am_M0 3) H := by
  rw [fr_o (show shp 3 = (0, 3, []) from rfl)]
  exact h 3 _ rfl
theorem fr_p4 {D : va_G} {ad : Nat → Nat} {c4 : am_T4} {H : Heap} (h : va_P D vwCl (fr_w ad c4) H) : va_at D vwCl (ad 4, am_cl ad c4 am_M0 4) H := by
  rw [fr_o (show shp 4 = (0, 7, []) from rfl)]
  exact h 4 _ rfl
theorem fr_p5 {D : va_G} {ad : Nat → Nat} {c4 : am_T4} {H : Heap} (h : va_P D vwCl (fr_w ad c4) H) : va_at D vwCl (ad 5, am_cl ad c4 am_M0 5) H := by
  rw [fr_o (show shp 5 = (0, 6, []) from rfl)]
  exact h 5 _ rfl
theorem fr_p6 {D : va_G} {ad : Nat → Nat} {c4 : am_T4} {H : Heap} (h : va_P D vwCl (fr_w ad c4) H) : va_at D vwCl (ad 6, am_cl ad c4 am_M0 6) H := by
  rw [fr_o (show shp 6 = (0, 2, []) from rfl)]
  exact h 6 _ rfl
theorem fr_p7 {D : va_G} {ad : Nat → Nat} {c4 : am_T4} {H : Heap} (h : va_P D vwCl (fr_w ad c4) H) : va_at D vwCl (ad 7, am_cl ad c4 am_M0 7) H := by
  rw [fr_o (show shp 7 = (0, 4, []) from rfl)]
  exact h 7 _ rfl
theorem fr_p8 {D : va_G} {ad : Nat → Nat} {c4 : am_T4} {H : Heap} (h : va_P D vwCl (fr_w ad c4) H) : va_at D vwCl (ad 8, am_cl ad c4 am_M0 8) H := by
  rw [fr_o (show shp 8 = (0, 0, []) from rfl)]
  exact h 8 _ rfl
theorem fr_p9 {D : va_G} {ad : Nat → Nat} {c4 : am_T4} {H : Heap} (h : va_P D vwCl (fr_w ad c4) H) : va_at D vwCl (ad 9, am_cl ad c4 am_M0 9) H := by
  rw [fr_o (show shp 9 = (0, 8, [2, 11, 12, 13, 14, 15, 16, 0, 0]) from rfl)]
  exact h 9 _ rfl
theorem fr_p10 {D : va_G} {ad : Nat → Nat} {c4 : am_T4} {H : Heap} (h : va_P D vwCl (fr_w ad c4) H) : va_at D vwCl (ad 10, am_cl ad c4 am_M0 10) H := by
  rw [am_cl_1 (show shp 10 = (1, 6, []) from rfl)]
  exact h 10 _ rfl
theorem fr_p11 {D : va_G} {ad : Nat → Nat} {c4 : am_T4} {H : Heap} (h : va_P D vwCl (fr_w ad c4) H) : va_at D vwCl (ad 11, am_cl ad c4 am_M0 11) H := by
  rw [am_cl_1 (show shp 11 = (1, 6, []) from rfl)]
  exact h 11 _ rfl
theorem fr_p12 {D : va_G} {ad : Nat → Nat} {c4 : am_T4} {H : Heap} (h : va_P D vwCl (fr_w ad c4) H) : va_at D vwCl (ad 12, am_cl ad c4 am_M0 12) H := by
  rw [am_cl_2 (show shp 12 = (2, 6, []) from rfl)]
  exact h 12 _ rfl
theorem fr_p13 {D : va_G} {ad : Nat → Nat} {c4 : am_T4} {H : Heap} (h : va_P D vwCl (fr_w ad c4) H) : va_at D vwCl (ad 13, am_cl ad c4 am_M0 13) H := by
  rw [am_cl_1 (show shp 13 = (1, 36, []) from rfl)]
  exact h 13 _ rfl
theorem fr_p14 {D : va_G} {ad : Nat → Nat} {c4 : am_T4} {H : Heap} (h : va_P D vwCl (fr_w ad c4) H) : va_at D vwCl (ad 14, am_cl ad c4 am_M0 14) H := by
  rw [am_cl_1 (show shp 14 = (1, 6, []) from rfl)]
  exact h 14 _ rfl
theorem fr_p15 {D : va_G} {ad : Nat → Nat} {c4 : am_T4} {H : Heap} (h : va_P D vwCl (fr_w ad c4) H) : va_at D vwCl (ad 15, am_cl ad c4 am_M0 15) H := by
  rw [am_cl_1 (show shp 15 = (1, 6, []) from rfl)]
  exact h 15 _ rfl
theorem fr_p16 {D : va_G} {ad : Nat → Nat} {c4 : am_T4} {H : Heap} (h : va_P D vwCl (fr_w ad c4) H) : va_at D vwCl (ad 16, am_cl ad c4 am_M0 16) H := by
  rw [fr_o (show shp 16 = (0, 8, [2, 18, 19, 20, 21, 22, 23, 0, 0]) from rfl)]
  exact h 27 _ rfl
theorem fr_p17 {D : va_G} {ad : Nat → Nat} {c4 : am_T4} {H : Heap} (h : va_P D vwCl (fr_w ad c4) H) : va_at D vwCl (ad 17, am_cl ad c4 am_M0 17) H := by
  rw [am_cl_1 (show shp 17 = (1, 6, []) from rfl)]
  exact h 28 _ rfl
theorem fr_p18 {D : va_G} {ad : Nat → Nat} {c4 : am_T4} {H : Heap} (h : va_P D vwCl (fr_w ad c4) H) : va_at D vwCl (ad 18, am_cl ad c4 am_M0 18) H := by
  rw [am_cl_1 (show shp 18 = (1, 6, []) from rfl)]
  exact h 29 _ rfl
theorem fr_p19 {D : va_G} {ad : Nat → Nat} {c4 : am_T4} {H : Heap} (h : va_P D vwCl (fr_w ad c4) H) : va_at D vwCl (ad 19, am_cl ad c4 am_M0 19) H := by
  rw [am_cl_2 (show shp 19 = (2, 6, []) from rfl)]
  exact h 30 _ rfl
theorem fr_p20 {D : va_G} {ad : Nat → Nat} {c4 : am_T4} {H : Heap} (h : va_P D vwCl (fr_w ad c4) H) : va_at D vwCl (ad 20, am_cl ad c4 am_M0 20) H := by
  rw [am_cl_1 (show shp 20 = (1, 36, []) from rfl)]
  exact h 31 _ rfl
theorem fr_p21 {D : va_G} {ad : Nat → Nat} {c4 : am_T4} {H : Heap} (h : va_P D vwCl (fr_w ad c4) H) : va_at D vwCl (ad 21, am_cl ad c4 am_M0 21) H := by
  rw [am_cl_1 (show shp 21 = (1, 6, []) from rfl)]
  exact h 32 _ rfl
theorem fr_p22 {D : va_G} {ad : Nat → Nat} {c4 : am_T4} {H : Heap} (h : va_P D vwCl (fr_w ad c4) H) : va_at D vwCl (ad 22, am_cl ad c4 am_M0 22) H := by
  rw [am_cl_1 (show shp 22 = (1, 6, []) from rfl)]
  exact h 33 _ rfl
theorem fr_p23 {D : va_G} {ad : Nat → Nat} {c4 : am_T4} {H : Heap} (h : va_P D vwCl (fr_w ad c4) H) : va_at D vwCl (ad 23, am_cl ad c4 am_M0 23) H := by
  rw [fr_o (show shp 23 = (0, 8, [2, 25, 26, 27, 28, 29, 30, 0, 0]) from rfl)]
  exact h 45 _ rfl
theorem fr_p24 {D : va_G} {ad : Nat → Nat} {c4 : am_T4} {H : Heap} (h : va_P D vwCl (fr_w ad c4) H) : va_at D vwCl (ad 24, am_cl ad c4 am_M0 24) H := by
  rw [am_cl_1 (show shp 24 = (1, 6, []) from rfl)]
  exact h 46 _ rfl
theorem fr_p25 {D : va_G} {ad : Nat → Nat} {c4 : am_T4} {H : Heap} (h : va_P D vwCl (fr_w ad c4) H) : va_at D vwCl (ad 25, am_cl ad c4 am_M0 25) H := by
  rw [am_cl_1 (show shp 25 = (1, 6, []) from rfl)]
  exact h 47 _ rfl
theorem fr_p26 {D : va_G} {ad : Nat → Nat} {c4 : am_T4} {H : Heap} (h : va_P D vwCl (fr_w ad c4) H) : va_at D vwCl (ad 26, am_cl ad c4 am_M0 26) H := by
  rw [am_cl_2 (show shp 26 = (2, 6, []) from rfl)]
  exact h 48 _ rfl
theorem fr_p27 {D : va_G} {ad : Nat → Nat} {c4 : am_T4} {H : Heap} (h : va_P D vwCl (fr_w ad c4) H) : va_at D vwCl (ad 27, am_cl ad c4 am_M0 27) H := by
  rw [am_cl_1 (show shp 27 = (1, 36, []) from rfl)]
  exact h 49 _ rfl
theorem fr_p28 {D : va_G} {ad : Nat → Nat} {c4 : am_T4} {H : Heap} (h : va_P D vwCl (fr_w ad c4) H) : va_at D vwCl (ad 28, am_cl ad c4 am_M0 28) H := by
  rw [am_cl_1 (show shp 28 = (1, 6, []) from rfl)]
  exact h 50 _ rfl
theorem fr_p29 {D : va_G} {ad : Nat → Nat} {c4 : am_T4} {H : Heap} (h : va_P D vwCl (fr_w ad c4) H) : va_at D vwCl (ad 29, am_cl ad c4 am_M0 29) H := by
  rw [am_cl_1 (show shp 29 = (1, 6, []) from rfl)]
  exact h 51 _ rfl
theorem fr_p30 {D : va_G} {ad : Nat → Nat} {c4 : am_T4} {H : Heap} (h : va_P D vwCl (fr_w ad c4) H) : va_at D vwCl (ad 30, am_cl ad c4 am_M0 30) H := by
  rw [fr_o (show shp 30 = (0, 1, [32, 0, 34, 38, 0, 33, 0]) from rfl)]
  exact h 16 _ rfl
theorem fr_p31 {D : va_G} {ad : Nat → Nat} {c4 : am_T4} {H : Heap} (h : va_P D vwCl (fr_w ad c4) H) : va_at D vwCl (ad 31, am_cl ad c4 am_M0 31) H := by
  rw [am_cl_1 (show shp 31 = (1, 50, []) from rfl)]
  exact h 17 _ rfl
theorem fr_p32 {D : va_G} {ad : Nat → Nat} {c4 : am_T4} {H : Heap} (h : va_P D vwCl (fr_w ad c4) H) : va_at D vwCl (ad 32, am_cl ad c4 am_M0 32) H := by
  rw [am_cl_1 (show shp 32 = (1, 20, []) from rfl)]
  exact h 26 _ rfl
theorem fr_p33 {D : va_G} {ad : Nat → Nat} {c4 : am_T4} {H : Heap} (h : va_P D vwCl (fr_w ad c4) H) : va_at D vwCl (ad 33, am_cl ad c4 am_M0 33) H := by
  rw [fr_o (show shp 33 = (0, 10, [35, 0, 36, 37, 0, 0, 0, 0]) from rfl)]
  exact h 18 _ rfl
theorem fr_p34 {D : va_G} {ad : Nat → Nat} {c4 : am_T4} {H : Heap} (h : va_P D vwCl (fr_w ad c4) H) : va_at D vwCl (ad 34, am_cl ad c4 am_M0 34) H := by
  rw [am_cl_1 (show shp 34 = (1, 50, []) from rfl)]
  exact h 19 _ rfl
theorem fr_p35 {D : va_G} {ad : Nat → Nat} {c4 : am_T4} {H : Heap} (h : va_P D vwCl (fr_w ad c4) H) : va_at D vwCl (ad 35, am_cl ad c4 am_M0 35) H := by
  rw [am_cl_1 (show shp 35 = (1, 50, []) from rfl)]
  exact h 20 _ rfl
theorem fr_p36 {D : va_G} {ad : Nat → Nat} {c4 : am_T4} {H : Heap} (h : va_P D vwCl (fr_w ad c4) H) : va_at D vwCl (ad 36, am_cl ad c4 am_M0 36) H := by
  rw [am_cl_1 (show shp 36 = (1, 50, []) from rfl)]
  exact h 21 _ rfl
theorem fr_p37 {D : va_G} {ad : Nat → Nat} {c4 : am_T4} {H : Heap} (h : va_P D vwCl (fr_w ad c4) H) : va_at D vwCl (ad 37, am_cl ad c4 am_M0 37) H := by
  rw [fr_o (show shp 37 = (0, 10, [39, 0, 40, 41, 0, 0, 0, 0]) from rfl)]
  exact h 22 _ rfl
theorem fr_p38 {D : va_G} {ad : Nat → Nat} {c4 : am_T4} {H : Heap} (h : va_P D vwCl (fr_w ad c4) H) : va_at D vwCl (ad 38, am_cl ad c4 am_M0 38) H := by
  rw [am_cl_1 (show shp 38 = (1, 50, []) from rfl)]
  exact h 23 _ rfl
theorem fr_p39 {D : va_G} {ad : Nat → Nat} {c4 : am_T4} {H : Heap} (h : va_P D vwCl (fr_w ad c4) H) : va_at D vwCl (ad 39, am_cl ad c4 am_M0 39) H := by
  rw [am_cl_1 (show shp 39 = (1, 50, []) from rfl)]
  exact h 24 _ rfl
theorem fr_p40 {D : va_G} {ad : Nat → Nat} {c4 : am_T4} {H : Heap} (h : va_P D vwCl (fr_w ad c4) H) : va_at D vwCl (ad 40, am_cl ad c4 am_M0 40) H := by
  rw [am_cl_1 (show shp 40 = (1, 50, []) from rfl)]
  exact h 25 _ rfl
theorem fr_p41 {D : va_G} {ad : Nat → Nat} {c4 : am_T4} {H : Heap} (h : va_P D vwCl (fr_w ad c4) H) : va_at D vwCl (ad 41, am_cl ad c4 am_M0 41) H := by
  rw [fr_o (show shp 41 = (0, 1, [43, 0, 45, 49, 0, 44, 0]) from rfl)]
  exact h 34 _ rfl
theorem fr_p42 {D : va_G} {ad : Nat → Nat} {c4 : am_T4} {H : Heap} (h : va_P D vwCl (fr_w ad c4) H) : va_at D vwCl (ad 42, am_cl ad c4 am_M0 42) H := by
  rw [am_cl_1 (show shp 42 = (1, 50, []) from rfl)]
  exact h 35 _ rfl
theorem fr_p43 {D : va_G} {ad : Nat → Nat} {c4 : am_T4} {H : Heap} (h : va_P D vwCl (fr_w ad c4) H) : va_at D vwCl (ad 43, am_cl ad c4 am_M0 43) H := by
  rw [am_cl_1 (show shp 43 = (1, 20, []) from rfl)]
  exact h 44 _ rfl
theorem fr_p44 {D : va_G} {ad : Nat → Nat} {c4 : am_T4} {H : Heap} (h : va_P D vwCl (fr_w ad c4) H) : va_at D vwCl (ad 44, am_cl ad c4 am_M0 44) H := by
  rw [fr_o (show shp 44 = (0, 10, [46, 0, 47, 48, 0, 0, 0, 0]) from rfl)]
  exact h 36 _ rfl
theorem fr_p45 {D : va_G} {ad : Nat → Nat} {c4 : am_T4} {H : Heap} (h : va_P D vwCl (fr_w ad c4) H) : va_at D vwCl (ad 45, am_cl ad c4 am_M0 45) H := by
  rw [am_cl_1 (show shp 45 = (1, 50, []) from rfl)]
  exact h 37 _ rfl
theorem fr_p46 {D : va_G} {ad : Nat → Nat} {c4 : am_T4} {H : Heap} (h : va_P D vwCl (fr_w ad c4) H) : va_at D vwCl (ad 46, am_cl ad c4 am_M0 46) H := by
  rw [am_cl_1 (show shp 46 = (1, 50, []) from rfl)]
  exact h 38 _ rfl
theorem fr_p47 {D : va_G} {ad : Nat → Nat} {c4 : am_T4} {H : Heap} (h : va_P D vwCl (fr_w ad c4) H) : va_at D vwCl (ad 47, am_cl ad c4 am_M0 47) H := by
  rw [am_cl_1 (show shp 47 = (1, 50, []) from rfl)]
  exact h 39 _ rfl
theorem fr_p48 {D : va_G} {ad : Nat → Nat} {c4 : am_T4} {H : Heap} (h : va_P D vwCl (fr_w ad c4) H) : va_at D vwCl (ad 48, am_cl ad c4 am_M0 48) H := by
  rw [fr_o (show shp 48 = (0, 10, [50, 0, 51, 52, 0, 0, 0, 0]) from rfl)]
  exact h 40 _ rfl
theorem fr_p49 {D : va_G} {ad : Nat → Nat} {c4 : am_T4} {H : Heap} (h : va_P D vwCl (fr_w ad c4) H) : va_at D vwCl (ad 49, am_cl ad c4 am_M0 49) H := by
  rw [am_cl_1 (show shp 49 = (1, 50, []) from rfl)]
  exact h 41 _ rfl
theorem fr_p50 {D : va_G} {ad : Nat → Nat} {c4 : am_T4} {H : Heap} (h : va_P D vwCl (fr_w ad c4) H) : va_at D vwCl (ad 50, am_cl ad c4 am_M0 50) H := by
  rw [am_cl_1 (show shp 50 = (1, 50, []) from rfl)]
  exact h 42 _ rfl
theorem fr_p51 {D : va_G} {ad : Nat → Nat} {c4 : am_T4} {H : Heap} (h : va_P D vwCl (fr_w ad c4) H) : va_at D vwCl (ad 51, am_cl ad c4 am_M0 51) H := by
  rw [am_cl_1 (show shp 51 = (1, 50, []) from rfl)]
  exact h 43 _ rfl
theorem fr_p52 {D : va_G} {ad : Nat → Nat} {c4 : am_T4} {H : Heap} (h : va_P D vwCl (fr_w ad c4) H) : va_at D vwCl (ad 52, am_cl ad c4 am_M0 52) H := by
  rw [fr_o (show shp 52 = (0, 10, [54, 0, 55, 56, 0, 0, 0, 0]) from rfl)]
  exact h 54 _ rfl
theorem fr_p53 {D : va_G} {ad : Nat → Nat} {c4 : am_T4} {H : Heap} (h : va_P D vwCl (fr_w ad c4) H) : va_at D vwCl (ad 53, am_cl ad c4 am_M0 53) H := by
  rw [am_cl_1 (show shp 53 = (1, 50, []) from rfl)]
  exact h 55 _ rfl
theorem fr_p54 {D : va_G} {ad : Nat → Nat} {c4 : am_T4} {H : Heap} (h : va_P D vwCl (fr_w ad c4) H) : va_at D vwCl (ad 54, am_cl ad c4 am_M0 54) H := by
  rw [am_cl_1 (show shp 54 = (1, 50, []) from rfl)]
  exact h 56 _ rfl
theorem fr_p55 {D : va_G} {ad : Nat → Nat} {c4 : am_T4} {H : Heap} (h : va_P D vwCl (fr_w ad c4) H) : va_at D vwCl (ad 55, am_cl ad c4 am_M0 55) H := by
  rw [am_cl_1 (show shp 55 = (1, 50, []) from rfl)]
  exact h 57 _ rfl
theorem fr_p56 {D : va_G} {ad : Nat → Nat} {c4 : am_T4} {H : Heap} (h : va_P D vwCl (fr_w ad c4) H) : va_at D vwCl (ad 56, am_cl ad c4 am_M0 56) H := by
  rw [am_cl_1 (show shp 56 = (1, 6, []) from rfl)]
  exact h 52 _ rfl
theorem fr_p57 {D : va_G} {ad : Nat → Nat} {c4 : am_T4} {H : Heap} (h : va_P D vwCl (fr_w ad c4) H) : va_at D vwCl (ad 57, am_cl ad c4 am_M0 57) H := by
  rw [am_cl_1 (show shp 57 = (1, 6, []) from rfl)]
  exact h 53 _ rfl
theorem fr_p58 {D : va_G} {ad : Nat → Nat} {c4 : am_T4} {H : Heap} (h : va_P D vwCl (fr_w ad c4) H) : va_at D vwCl (ad 58, am_cl ad c4 am_M0 58) H := by
  rw [fr_o (show shp 58 = (0, 9, [60, 0, 0, 0]) from rfl)]
  exact h 58 _ rfl
theorem fr_p59 {D : va_G} {ad : Nat → Nat} {c4 : am_T4} {H : Heap} (h : va_P D vwCl (fr_w ad c4) H) : va_at D vwCl (ad 59, am_cl ad c4 am_M0 59) H := by
  rw [am_cl_1 (show shp 59 = (1, 40, []) from rfl)]
  exact h 59 _ rfl
theorem fr_p60 {D : va_G} {ad : Nat → Nat} {c4 : am_T4} {H : Heap} (h : va_P D vwCl (fr_w ad c4) H) : va_at D vwCl (ad 60, am_cl ad c4 am_M0 60) H := by
  rw [am_cl_1 (show shp 60 = (1, 4, []) from rfl)]
  exact h 60 _ rfl
theorem fr_p61 {D : va_G} {ad : Nat → Nat} {c4 : am_T4} {H : Heap} (h : va_P D vwCl (fr_w ad c4) H) : va_at D vwCl (ad 61, am_cl ad c4 am_M0 61) H := by
  rw [am_cl_1 (show shp 61 = (1, 4, []) from rfl)]
  exact h 61 _ rfl
theorem fr_p62 {D : va_G} {ad : Nat → Nat} {c4 : am_T4} {H : Heap} (h : va_P D vwCl (fr_w ad c4) H) : va_at D vwCl (ad 62, am_cl ad c4 am_M0 62) H := by
  rw [am_cl_4 (show shp 62 = (4, 4, [63, 64, 65, 66]) from rfl)]
  exact h 62 _ rfl
theorem fr_p63 {D : va_G} {ad : Nat → Nat} {c4 : am_T4} {H : Heap} (h : va_P D vwCl (fr_w ad c4) H) : va_at D vwCl (ad 63, am_cl ad c4 am_M0 63) H := by
  rw [am_cl_1 (show shp 63 = (1, 40, []) from rfl)]
  exact h 63 _ rfl
theorem fr_p64 {D : va_G} {ad : Nat → Nat} {c4 : am_T4} {H : Heap} (h : va_P D vwCl (fr_w ad c4) H) : va_at D vwCl (ad 64, am_cl ad c4 am_M0 64) H := by
  rw [am_cl_1 (show shp 64 = (1, 40, []) from rfl)]
  exact h 64 _ rfl
theorem fr_p65 {D : va_G} {ad : Nat → Nat} {c4 : am_T4} {H : Heap} (h : va_P D vwCl (fr_w ad c4) H) : va_at D vwCl (ad 65, am_cl ad c4 am_M0 65) H := by
  rw [am_cl_1 (show shp 65 = (1, 40, []) from rfl)]
  exact h 65 _ rfl
theorem fr_p66 {D : va_G} {ad : Nat → Nat} {c4 : am_T4} {H : Heap} (h : va_P D vwCl (fr_w ad c4) H) : va_at D vwCl (ad 66, am_cl ad c4 am_M0 66) H := by
  rw [am_cl_1 (show shp 66 = (1, 40, []) from rfl)]
  exact h 66 _ rfl
theorem fr_p67 {D : va_G} {ad : Nat → Nat} {c4 : am_T4} {H : Heap} (h : va_P D vwCl (fr_w ad c4) H) : va_at D vwCl (ad 67, am_cl ad c4 am_M0 67) H := by
  rw [am_cl_1 (show shp 67 = (1, 6, []) from rfl)]
  exact h 67 _ rfl
theorem fr_p68 {D : va_G} {ad : Nat → Nat} {c4 : am_T4} {H : Heap} (h : va_P D vwCl (fr_w ad c4) H) : va_at D vwCl (ad 68, am_cl ad c4 am_M0 68) H := by
  rw [fr_o (show shp 68 = (0, 12, [70, 71, 72, 73, 0, 0, 0, 0, 0, 0, 0, 0, 0, 0, 74, 75, 76, 77, 78, 0, 0, 0, 0, 79, 80, 81, 82]) from rfl)]
  exact h 68 _ rfl
theorem fr_p69 {D : va_G} {ad : Nat → Nat} {c4 : am_T4} {H : Heap} (h : va_P D vwCl (fr_w ad c4) H) : va_at D vwCl (ad 69, am_cl ad c4 am_M0 69) H := by
  rw [am_cl_1 (show shp 69 = (1, 237, []) from rfl)]
  exact h 69 _ rfl
theorem fr_p70 {D : va_G} {ad : Nat → Nat} {c4 : am_T4} {H : Heap} (h : va_P D vwCl (fr_w ad c4) H) : va_at D vwCl (ad 70, am_cl ad c4 am_M0 70) H := by
  rw [am_cl_1 (show shp 70 = (1, 237, []) from rfl)]
  exact h 70 _ rfl
theorem fr_p71 {D : va_G} {ad : Nat → Nat} {c4 : am_T4} {H : Heap} (h : va_P D vwCl (fr_w ad c4) H) : va_at D vwCl (ad 71, am_cl ad c4 am_M0 71) H := by
  rw [am_cl_1 (show shp 71 = (1, 62, []) from rfl)]
  exact h 71 _ rfl
theorem fr_p72 {D : va_G} {ad : Nat → Nat} {c4 : am_T4} {H : Heap} (h : va_P D vwCl (fr_w ad c4) H) : va_at D vwCl (ad 72, am_cl ad c4 am_M0 72) H := by
  rw [am_cl_1 (show shp 72 = (1, 6, []) from rfl)]
  exact h 72 _ rfl
theorem fr_p73 {D : va_G} {ad : Nat → Nat} {c4 : am_T4} {H : Heap} (h : va_P D vwCl (fr_w ad c4) H) : va_at D vwCl (ad 73, am_cl ad c4 am_M0 73) H := by
  rw [am_cl_1 (show shp 73 = (1, 6, []) from rfl)]
  exact h 73 _ rfl
theorem fr_p74 {D : va_G} {ad : Nat → Nat} {c4 : am_T4} {H : Heap} (h : va_P D vwCl (fr_w ad c4) H) : va_at D vwCl (ad 74, am_cl ad c4 am_M0 74) H := by
  rw [am_cl_1 (show shp 74 = (1, 6, []) from rfl)]
  exact h 74 _ rfl
theorem fr_p75 {D : va_G} {ad : Nat → Nat} {c4 : am_T4} {H : Heap} (h : va_P D vwCl (fr_w ad c4) H) : va_at D vwCl (ad 75, am_cl ad c4 am_M0 75) H := by
  rw [am_cl_1 (show shp 75 = (1, 6, []) from rfl)]
  exact h 75 _ rfl
theorem fr_p76 {D : va_G} {ad : Nat → Nat} {c4 : am_T4} {H : Heap} (h : va_P D vwCl (fr_w ad c4) H) : va_at D vwCl (ad 76, am_cl ad c4 am_M0 76) H := by
  rw [am_cl_1 (show shp 76 = (1, 6, []) from rfl)]
  exact h 76 _ rfl
theorem fr_p77 {D : va_G} {ad : Nat → Nat} {c4 : am_T4} {H : Heap} (h : va_P D vwCl (fr_w ad c4) H) : va_at D vwCl (ad 77, am_cl ad c4 am_M0 77) H := by
  rw [am_cl_1 (show shp 77 = (1, 40, []) from rfl)]
  exact h 77 _ rfl
theorem fr_p78 {D : va_G} {ad : Nat → Nat} {c4 : am_T4} {H : Heap} (h : va_P D vwCl (fr_w ad c4) H) : va_at D vwCl (ad 78, am_cl ad c4 am_M0 78) H := by
  rw [am_cl_1 (show shp 78 = (1, 4, []) from rfl)]
  exact h 78 _ rfl
theorem fr_p79 {D : va_G} {ad : Nat → Nat} {c4 : am_T4} {H : Heap} (h : va_P D vwCl (fr_w ad c4) H) : va_at D vwCl (ad 79, am_cl ad c4 am_M0 79) H := by
  rw [am_cl_1 (show shp 79 = (1, 4, []) from rfl)]
  exact h 79 _ rfl
theorem fr_p80 {D : va_G} {ad : Nat → Nat} {c4 : am_T4} {H : Heap} (h : va_P D vwCl (fr_w ad c4) H) : va_at D vwCl (ad 80, am_cl ad c4 am_M0 80) H := by
  rw [am_cl_1 (show shp 80 = (1, 160, []) from rfl)]
  exact h 80 _ rfl
theorem fr_p81 {D : va_G} {ad : Nat → Nat} {c4 : am_T4} {H : Heap} (h : va_P D vwCl (fr_w ad c4) H) : va_at D vwCl (ad 81, am_cl ad c4 am_M0 81) H := by
  rw [am_cl_1 (show shp 81 = (1, 40, []) from rfl)]
  exact h 81 _ rfl
theorem fr_P {D : va_G} {ad : Nat → Nat} {c4 : am_T4} {H : Heap} (h : va_P D vwCl (fr_w ad c4) H) : va_P D vwCl (am_w ad c4 am_M0) H := by
  have key : ∀ k, k < 82 → va_at D vwCl (ad k, am_cl ad c4 am_M0 k) H := fr_all_of 82 ⟨fr_p81 h, fr_p80 h, fr_p79 h, fr_p78 h, fr_p77 h, fr_p76 h, fr_p75 h, fr_p74 h, fr_p73 h, fr_p72 h, fr_p71 h, fr_p70 h, fr_p69 h, fr_p68 h, fr_p67 h, fr_p66 h, fr_p65 h, fr_p64 h, fr_p63 h, fr_p62 h, fr_p61 h, fr_p60 h, fr_p59 h, fr_p58 h, fr_p57 h, fr_p56 h, fr_p55 h, fr_p54 h, fr_p53 h, fr_p52 h, fr_p51 h, fr_p50 h, fr_p49 h, fr_p48 h, fr_p47 h, fr_p46 h, fr_p45 h, fr_p44 h, fr_p43 h, fr_p42 h, fr_p41 h, fr_p40 h, fr_p39 h, fr_p38 h, fr_p37 h, fr_p36 h, fr_p35 h, fr_p34 h, fr_p33 h, fr_p32 h, fr_p31 h, fr_p30 h, fr_p29 h, fr_p28 h, fr_p27 h, fr_p26 h, fr_p25 h, fr_p24 h, fr_p23 h, fr_p22 h, fr_p21 h, fr_p20 h, fr_p19 h, fr_p18 h, fr_p17 h, fr_p16 h, fr_p15 h, fr_p14 h, fr_p13 h, fr_p12 h, fr_p11 h, fr_p10 h, fr_p9 h, fr_p8 h, fr_p7 h, fr_p6 h, fr_p5 h, fr_p4 h, fr_p3 h, fr_p2 h, fr_p1 h, fr_p0 h, trivial⟩
  intro k q hq
  by_cases hk : k < am_NC
  · rw [am_w_at hk] at hq
    cases hq
    exact key k hk
  · rw [am_w_none hk] at hq; cases hq
set_option maxRecDepth 20000 in
theorem fr_at {ad : Nat → Nat} {c4 : am_T4} : ∀ k, k < 82 → ∃ e, (fr_w ad c4)[fr_pm.getD k 0]? = some (ad k, e) := fr_all_of 82 ⟨⟨_, rfl⟩, ⟨_, rfl⟩, ⟨_, rfl⟩, ⟨_, rfl⟩, ⟨_, rfl⟩, ⟨_, rfl⟩, ⟨_, rfl⟩, ⟨_, rfl⟩, ⟨_, rfl⟩, ⟨_, rfl⟩, ⟨_, rfl⟩, ⟨_, rfl⟩, ⟨_, rfl⟩, ⟨_, rfl⟩, ⟨_, rfl⟩, ⟨_, rfl⟩, ⟨_, rfl⟩, ⟨_, rfl⟩, ⟨_, rfl⟩, ⟨_, rfl⟩, ⟨_, rfl⟩, ⟨_, rfl⟩, ⟨_, rfl⟩, ⟨_, rfl⟩, ⟨_, rfl⟩, ⟨_, rfl⟩, ⟨_, rfl⟩, ⟨_, rfl⟩, ⟨_, rfl⟩, ⟨_, rfl⟩, ⟨_, rfl⟩, ⟨_, rfl⟩, ⟨_, rfl⟩, ⟨_, rfl⟩, ⟨_, rfl⟩, ⟨_, rfl⟩, ⟨_, rfl⟩, ⟨_, rfl⟩, ⟨_, rfl⟩, ⟨_, rfl⟩, ⟨_, rfl⟩, ⟨_, rfl⟩, ⟨_, rfl⟩, ⟨_, rfl⟩, ⟨_, rfl⟩, ⟨_, rfl⟩, ⟨_, rfl⟩, ⟨_, rfl⟩, ⟨_, rfl⟩, ⟨_, rfl⟩, ⟨_, rfl⟩, ⟨_, rfl⟩, ⟨_, rfl⟩, ⟨_, rfl⟩, ⟨_, rfl⟩, ⟨_, rfl⟩, ⟨_, rfl⟩, ⟨_, rfl⟩, ⟨_, rfl⟩, ⟨_, rfl⟩, ⟨_, rfl⟩, ⟨_, rfl⟩, ⟨_, rfl⟩, ⟨_, rfl⟩, ⟨_, rfl⟩, ⟨_, rfl⟩, ⟨_, rfl⟩, ⟨_, rfl⟩, ⟨_, rfl⟩, ⟨_, rfl⟩, ⟨_, rfl⟩, ⟨_, rfl⟩, ⟨_, rfl⟩, ⟨_, rfl⟩, ⟨_, rfl⟩, ⟨_, rfl⟩, ⟨_, rfl⟩, ⟨_, rfl⟩, ⟨_, rfl⟩, ⟨_, rfl⟩, ⟨_, rfl⟩, ⟨_, rfl⟩, trivial⟩
set_option maxRecDepth 20000 in
theorem fr_pmi : ∀ i, i < 82 → ∀ j, j < 82 → fr_pm.getD i 0 = fr_pm.getD j 0 → i = j := by decide +kernel
theorem fr_D {A : Nat → Prop} {ad : Nat → Nat} {c4 : am_T4} (h : va_D A (fr_w ad c4)) : (∀ i j, i < am_NC → j < am_NC → ad i = ad j → i = j) ∧ ∀ k, k < am_NC → A (ad k) := by
  refine ⟨fun i j hi hj hij => ?_, fun k hk => ?_⟩
  · obtain ⟨e1, h1⟩ := fr_at (ad := ad) (c4 := c4) i hi
    obtain ⟨e2, h2⟩ := fr_at (ad := ad) (c4 := c4) j hj
    exact fr_pmi i hi j hj (h.1 _ _ _ _ h1 h2 hij)
  · obtain ⟨e1, h1⟩ := fr_at (ad := ad) (c4 := c4) k hk
    exact h.2 _ _ h1
theorem fr_7 (ad : Nat → Nat) (a b c d e f g : Nat) (h : [ad 2, ad 3, ad 4, ad 5, ad 6, ad 7, ad 8] = [a, b, c, d, e, f, g]) : (fun (i : Nat) => [a, b, c, d, e, f, g][i]?) = fun (i : Nat) => (([2, 3, 4, 5, 6, 7, 8] : List Nat)[i]?).map ad := by
  rw [← h]
  funext i
  rw [← List.getElem?_map]
  rfl
theorem fr_4 (ad : Nat → Nat) (a b c d : Nat) (h : [ad 63, ad 64, ad 65, ad 66] = [a, b, c, d]) : (fun (i : Nat) => [a, b, c, d][i]?) = fun (i : Nat) => (([63, 64, 65, 66] : List Nat)[i]?).map ad := by
  rw [← h]
  funext i
  rw [← List.getElem?_map]
  rfl
