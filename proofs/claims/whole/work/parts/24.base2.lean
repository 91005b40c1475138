/-! numbers and truth values of the small machine -/
def bi (p : Prop) [Decidable p] : Int32 := if p then nI 1 else nI 0
theorem bi_eq0 (p : Prop) [Decidable p] : (bi p = 0) = ¬ p := by
  unfold bi
  by_cases h : p
  · simp only [if_pos h, h, not_true, eq_iff_iff, iff_false]; decide
  · simp only [if_neg h, h, not_false_iff, eq_iff_iff, iff_true]; rfl
theorem bi_01 (p : Prop) [Decidable p] : (bi p = 0 ∨ bi p = 1) = True := by
  unfold bi
  by_cases h : p
  · simp only [if_pos h, eq_iff_iff, iff_true]; exact Or.inr rfl
  · simp only [if_neg h, eq_iff_iff, iff_true]; exact Or.inl rfl
theorem bi_eq1 (p : Prop) [Decidable p] : (bi p = 1) = p := by
  unfold bi
  by_cases h : p
  · simp only [if_pos h, h, eq_iff_iff, iff_true]; rfl
  · simp only [if_neg h, h, eq_iff_iff, iff_false]; decide
theorem bi_nem (p : Prop) : (¬ p ∨ p) = True := eq_true (Classical.or_iff_not_imp_left.mpr Classical.not_not.mp)
theorem bi_t (p : Prop) [Decidable p] (h : p) : bi p = nI 1 := if_pos h
theorem bi_f (p : Prop) [Decidable p] (h : ¬ p) : bi p = nI 0 := if_neg h
theorem bi_congr {p q : Prop} [Decidable p] [Decidable q] (h : p ↔ q) : bi p = bi q := by
  unfold bi
  by_cases hp : p
  · rw [if_pos hp, if_pos (h.mp hp)]
  · rw [if_neg hp, if_neg (fun x => hp (h.mpr x))]
theorem bi_out {p q : Prop} {i : Decidable p} {j : Decidable q} {M : am_M} (h : p ↔ q) : some (some (Value.int (@bi p i)), M) = some (some (Value.int (@bi q j)), M) := by rw [bi_congr h]
theorem am_k_m1 : am_k (-1) = -1 := by decide +kernel
theorem nI_in9 {c N : Nat} (h : c < N) (hN : N < 2147483648) : (nI c < 0 ∨ N ≤ c) = False := eq_false (by
  rintro (h1 | h1)
  · exact nI_pos (by omega) h1
  · omega)
theorem nI_pos9 {c : Nat} (h : c < 2147483648) : (nI c < 0) = False := eq_false (nI_pos (by omega))
theorem nI_lt9 {a b : Nat} (ha : a < 2147483648) (hb : b < 2147483648) : (nI a < nI b) = (a < b) := propext (nI_ltI (by omega) (by omega))
theorem nI_le9 {a b : Nat} (ha : a < 2147483648) (hb : b < 2147483648) : (nI a ≤ nI b) = (a ≤ b) := propext (nI_leI (by omega) (by omega))
theorem nI_eq9 {a b : Nat} (ha : a < 2147483648) (hb : b < 2147483648) : (nI a = nI b) = (a = b) := propext (nI_eq (by omega) (by omega))
theorem nI_eq09 {a : Nat} (ha : a < 2147483648) : (nI a = 0) = (a = 0) := by rw [← nI_0]; exact nI_eq9 ha (by omega)
theorem nI_le09 {a : Nat} (ha : a < 2147483648) : (nI a ≤ 0) = (a = 0) := by rw [← nI_0, nI_le9 ha (by omega)]; exact propext ⟨fun h => by omega, fun h => by omega⟩
theorem nle9 {a b : Nat} (h : b < a) : (a ≤ b) = False := eq_false (by omega)
theorem nI_dec9 {a : Nat} (h : 0 < a) : nI a + (-1) = nI (a - 1) := by
  obtain ⟨b, rfl⟩ : ∃ b, a = b + 1 := ⟨a - 1, by omega⟩
  rw [pk_m1, Nat.add_sub_cancel]
theorem i32_lt (a b : Int32) : a < b ↔ a.toInt < b.toInt := Int32.lt_iff_toInt_lt
theorem i32_le (a b : Int32) : a ≤ b ↔ a.toInt ≤ b.toInt := Int32.le_iff_toInt_le
theorem i32_eq (a b : Int32) : a = b ↔ a.toInt = b.toInt := Int32.toInt_inj.symm
theorem i64_lt (a b : Int64) : a < b ↔ a.toInt < b.toInt := Int64.lt_iff_toInt_lt
theorem i64_le (a b : Int64) : a ≤ b ↔ a.toInt ≤ b.toInt := Int64.le_iff_toInt_le
theorem i64_eq (a b : Int64) : a = b ↔ a.toInt = b.toInt := Int64.toInt_inj.symm
theorem i32_0 : (0 : Int32).toInt = 0 := by decide +kernel
theorem i32_1 : (1 : Int32).toInt = 1 := by decide +kernel
theorem i32_m1 : (-1 : Int32).toInt = -1 := by decide +kernel
/-- an int in a range is a number -/
theorem i32_of {x : Int32} {n : Nat} (h0 : 0 ≤ x.toInt) (h1 : x.toInt < n) (hn : n < 2147483648) : ∃ j, j < n ∧ x = nI j := vp_in_of (vp_in_iff.mpr ⟨h0, h1⟩) (by omega)
theorem lgc_lt (x y : Int64) : (lg_cmp x y < 0) = (x < y) := by
  unfold lg_cmp
  rcases Int.lt_trichotomy x.toInt y.toInt with h | h | h
  · rw [if_neg (fun q => by have := (i64_lt _ _).mp q; omega), if_neg (fun q => by have := (i64_eq _ _).mp q; omega)]
    exact propext ⟨fun _ => (i64_lt _ _).mpr h, fun _ => by decide⟩
  · have := (i64_eq _ _).mpr h
    subst this
    rw [if_neg (fun q => by have := (i64_lt _ _).mp q; omega), if_pos rfl]
    exact propext ⟨fun h => absurd h (by decide), fun h => by have := (i64_lt _ _).mp h; omega⟩
  · rw [if_pos ((i64_lt _ _).mpr h)]
    exact propext ⟨fun h => absurd h (by decide), fun q => by have := (i64_lt _ _).mp q; omega⟩
theorem lgc_le (x y : Int64) : (lg_cmp x y ≤ 0) = (x ≤ y) := by
  unfold lg_cmp
  rcases Int.lt_trichotomy x.toInt y.toInt with h | h | h
  · rw [if_neg (fun q => by have := (i64_lt _ _).mp q; omega), if_neg (fun q => by have := (i64_eq _ _).mp q; omega)]
    exact propext ⟨fun _ => (i64_le _ _).mpr (by omega), fun _ => by decide⟩
  · have := (i64_eq _ _).mpr h
    subst this
    rw [if_neg (fun q => by have := (i64_lt _ _).mp q; omega), if_pos rfl]
    exact propext ⟨fun _ => (i64_le _ _).mpr (by omega), fun _ => by decide⟩
  · rw [if_pos ((i64_lt _ _).mpr h)]
    exact propext ⟨fun h => absurd h (by decide), fun q => by have := (i64_le _ _).mp q; omega⟩
theorem am_kl_int {z : Int} (h1 : -2147483648 ≤ z) (h2 : z < 2147483648) : (am_kl z).toInt = z := by
  cases z with
  | ofNat n =>
    have h3 : n < 2 ^ 31 := by
      have : (n : Int) < 2147483648 := h2
      omega
    exact lN_toInt h3
  | negSucc n => exact Int64.toInt_ofInt_of_le (by omega) (by omega)
/-- a store with one cell changed -/
theorem stc_eq {M : am_M} {a : Nat} {f : Nat → Int32} : am_setc M a f a = f := am_setc_eq
theorem stc_ne {M : am_M} {a b : Nat} {f : Nat → Int32} (h : b ≠ a) : am_setc M a f b = M b := am_setc_ne b h
theorem stc_sc {M : am_M} {a : Nat} {f g : Nat → Int32} : am_setc (am_setc M a f) a g = am_setc M a g := by
  funext b
  by_cases h : b = a
  · subst h; rw [stc_eq, stc_eq]
  · rw [stc_ne h, stc_ne h, stc_ne h]
theorem stc_self {M : am_M} {a : Nat} : am_setc M a (M a) = M := by
  funext b
  by_cases h : b = a
  · subst h; rw [stc_eq]
  · rw [stc_ne h]
theorem up_sc {M : am_M} {a i : Nat} {f : Nat → Int32} {x : Int32} : am_up (am_setc M a f) a i x = am_setc M a (upd f i x) := by
  show am_setc (am_setc M a f) a (upd (am_setc M a f a) i x) = _
  rw [stc_sc, stc_eq]
theorem upd_eq {f : Nat → Int32} {k : Nat} {x : Int32} : upd f k x k = x := by simp [upd]
theorem upd_ne {f : Nat → Int32} {k j : Nat} {x : Int32} (h : j ≠ k) : upd f k x j = f j := by simp [upd, h]
