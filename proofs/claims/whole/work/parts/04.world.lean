/-! THE SMALL MACHINE'S STORE ON THE HEAP: cell k lies at the address ad k -/
def am_cv (ad : Nat → Nat) (v : Value) : Value := match v with
  | .ref a => .ref (ad a)
  | v => v
abbrev am_T4 : Type := ClassId × ClassId × ClassId × ClassId
noncomputable def am_fl (ad : Nat → Nat) (M : am_M) (k : Nat) : List Value := (shp k).2.2.mapIdx (fun j f => match f with
  | 0 => .int (M k j)
  | g + 1 => .ref (ad g))
noncomputable def am_cl (ad : Nat → Nat) (c4 : am_T4) (M : am_M) (k : Nat) : va_E := match (shp k).1 with
  | 0 => .inr ((shp k).2.1, am_fl ad M k)
  | 1 => .inl (c4.1, (shp k).2.1, .inl (M k))
  | 2 => .inl (c4.2.1, (shp k).2.1, .inl (M k))
  | 3 => .inl (c4.2.2.1, (shp k).2.1, .inr (.inr (.inr (.inr (fun i => ((shp k).2.2[i]?).map ad)))))
  | _ => .inl (c4.2.2.2, (shp k).2.1, .inr (.inr (.inr (.inr (fun i => ((shp k).2.2[i]?).map ad)))))
noncomputable def am_w (ad : Nat → Nat) (c4 : am_T4) (M : am_M) : va_W := (List.range am_NC).map (fun k => (ad k, am_cl ad c4 M k))
abbrev am_ty (c4 : am_T4) : List (ClassId × FieldType) := [(c4.1, .int), (c4.2.1, .boolean), (c4.2.2.1, .object "ShelfNights$Kind"), (c4.2.2.2, .array .int)]
def am_A (ad : Nat → Nat) : Nat → Prop := fun q => ∃ k, k < am_NC ∧ q = ad k
theorem am_w_at {ad : Nat → Nat} {c4 : am_T4} {M : am_M} {k : Nat} (h : k < am_NC) : (am_w ad c4 M)[k]? = some (ad k, am_cl ad c4 M k) := by
  unfold am_w
  rw [List.getElem?_map, List.getElem?_range h]
  rfl
theorem am_w_none {ad : Nat → Nat} {c4 : am_T4} {M : am_M} {k : Nat} (h : ¬ k < am_NC) : (am_w ad c4 M)[k]? = none := by
  unfold am_w
  rw [List.getElem?_map, List.getElem?_eq_none (by simpa using h)]
  rfl
theorem am_w_D {ad : Nat → Nat} (hi : ∀ i j, i < am_NC → j < am_NC → ad i = ad j → i = j) (c4 : am_T4) (M : am_M) : va_D (am_A ad) (am_w ad c4 M) := by
  refine ⟨fun i j p q hp hq h => ?_, fun k q hq => ?_⟩
  · by_cases h1 : i < am_NC
    · by_cases h2 : j < am_NC
      · rw [am_w_at h1] at hp
        rw [am_w_at h2] at hq
        cases hp
        cases hq
        exact hi i j h1 h2 h
      · rw [am_w_none h2] at hq; cases hq
    · rw [am_w_none h1] at hp; cases hp
  · by_cases h1 : k < am_NC
    · rw [am_w_at h1] at hq
      cases hq
      exact ⟨k, h1, rfl⟩
    · rw [am_w_none h1] at hq; cases hq
theorem am_w_set {ad : Nat → Nat} {c4 : am_T4} {M M' : am_M} {k : Nat} {e : va_E} (hk : k < am_NC) (he : am_cl ad c4 M' k = e) (ho : ∀ j, j ≠ k → M' j = M j) : (am_w ad c4 M).set k (ad k, e) = am_w ad c4 M' := by
  apply List.ext_getElem?
  intro j
  by_cases hj : j < am_NC
  · by_cases e1 : j = k
    · subst e1
      rw [am_w_at hj, List.getElem?_set_self (by unfold am_w; simpa using hj), he]
    · rw [List.getElem?_set_ne (fun q => e1 q.symm), am_w_at hj, am_w_at hj]
      have h2 := ho j e1
      unfold am_cl am_fl
      rw [h2]
  · have h1 := am_w_none (ad := ad) (c4 := c4) (M := M) hj
    rw [am_w_none hj, List.getElem?_eq_none]
    rw [List.length_set]
    exact List.getElem?_eq_none_iff.mp h1
theorem am_setc_ne {M : am_M} {a : Nat} {f : Nat → Int32} : ∀ j, j ≠ a → am_setc M a f j = M j := fun j h => by simp [am_setc, h]
theorem am_setc_eq {M : am_M} {a : Nat} {f : Nat → Int32} : am_setc M a f a = f := by simp [am_setc]
theorem am_cv_cat (ad : Nat → Nat) (v : Value) : (am_cv ad v).category = v.category := by cases v <;> rfl
theorem am_cat_map (ad : Nat → Nat) (st : List Value) : ((st.map (am_cv ad)).map fun v => v.category).sum = am_cat st := by
  unfold am_cat
  rw [List.map_map]
  congr 1
  exact List.map_congr_left fun v _ => am_cv_cat ad v
/-- the locals: what is null here isn't known -/
def am_lR (ad : Nat → Nat) (lsm : Array Slot) (nL : Nat) (ls : List Value) : Prop := ls.length = nL ∧ lsm.size = nL ∧ lv_wf lsm ∧ ∀ (k : Nat) (v : Value), ls[k]? = some v → v ≠ .null → lsm[k]? = some (.val (am_cv ad v))
def am_lv (ad : Nat → Nat) (ls : List Value) : List (Nat × Value) := (List.range ls.length).filterMap (fun k => if ls.getD k .null = .null then none else some (k, am_cv ad (ls.getD k .null)))
theorem am_lv_mem {ad : Nat → Nat} {ls : List Value} {q : Nat × Value} : q ∈ am_lv ad ls ↔ ∃ v, ls[q.1]? = some v ∧ v ≠ .null ∧ q.2 = am_cv ad v := by
  unfold am_lv
  rw [List.mem_filterMap]
  constructor
  · rintro ⟨k, hk, h⟩
    have hk := List.mem_range.mp hk
    have e : ls[k]? = some (ls.getD k .null) := by rw [List.getD_eq_getElem?_getD, List.getElem?_eq_getElem hk]; rfl
    by_cases hn : ls.getD k .null = .null
    · rw [if_pos hn] at h; cases h
    · rw [if_neg hn] at h
      cases h
      exact ⟨_, e, hn, rfl⟩
  · rintro ⟨v, h1, h2, h3⟩
    have e : ls.getD q.1 .null = v := by rw [List.getD_eq_getElem?_getD, h1]; rfl
    refine ⟨q.1, List.mem_range.mpr (List.getElem?_eq_some_iff.mp h1).1, ?_⟩
    rw [e, if_neg h2, ← h3]
theorem am_lR_has {ad : Nat → Nat} {lsm : Array Slot} {nL : Nat} {ls : List Value} (h : am_lR ad lsm nL ls) : lv_has lsm nL (am_lv ad ls) := by
  refine ⟨h.2.1, h.2.2.1, fun q hq => ?_⟩
  obtain ⟨v, h1, h2, h3⟩ := am_lv_mem.mp hq
  rw [h3]
  exact h.2.2.2 _ _ h1 h2
theorem am_set_len (ls : List Value) (i : Nat) (v : Value) : (am_set ls i v).length = ls.length := by
  cases i <;> simp [am_set]
theorem am_set_get {ls : List Value} {i k : Nat} {v w : Value} (h : (am_set ls i v)[k]? = some w) (hn : w ≠ .null) : (k = i ∧ w = v) ∨ (k ≠ i ∧ ls[k]? = some w ∧ ¬ (k + 1 = i ∧ w.category = 2)) := by
  have clr : ∀ u w : Value, am_clr u = w → w ≠ .null → u = w ∧ ¬ w.category = 2 := by
    intro u w h hn
    unfold am_clr at h
    by_cases c : u.category = 2
    · rw [if_pos c] at h; exact absurd h.symm hn
    · rw [if_neg c] at h; subst h; exact ⟨rfl, c⟩
  by_cases e : k = i
  · subst e
    left
    refine ⟨rfl, ?_⟩
    have hl := (List.getElem?_eq_some_iff.mp h).1
    rw [am_set_len] at hl
    unfold am_set at h
    cases k with
    | zero => rw [List.getElem?_set_self hl] at h; exact (Option.some.inj h).symm
    | succ j => rw [List.getElem?_set_self (by simpa using hl)] at h; exact (Option.some.inj h).symm
  · right
    refine ⟨e, ?_⟩
    unfold am_set at h
    cases i with
    | zero =>
      rw [List.getElem?_set_ne (fun q => e q.symm)] at h
      exact ⟨h, fun q => by omega⟩
    | succ j =>
      rw [List.getElem?_set_ne (fun q => e q.symm)] at h
      dsimp only at h
      by_cases e2 : k = j
      · subst e2
        have hl := (List.getElem?_eq_some_iff.mp h).1
        rw [List.length_set] at hl
        rw [List.getElem?_set_self hl] at h
        obtain ⟨h1, h2⟩ := clr _ _ (Option.some.inj h) hn
        refine ⟨?_, fun q => h2 q.2⟩
        rw [List.getElem?_eq_getElem hl, ← h1, List.getD_eq_getElem?_getD, List.getElem?_eq_getElem hl]
        rfl
      · rw [List.getElem?_set_ne (fun q => e2 q.symm)] at h
        exact ⟨h, fun q => e2 (by omega)⟩
theorem am_lR_set {ad : Nat → Nat} {lsm lsm' : Array Slot} {nL : Nat} {ls : List Value} {i : Nat} {v : Value} (h : am_lR ad lsm nL ls) (h' : lv_has lsm' nL ((i, am_cv ad v) :: (am_lv ad ls).filter (fun q => !(q.1 == i) && !(q.1 + 1 == i && q.2.category == 2)))) : am_lR ad lsm' nL (am_set ls i v) := by
  refine ⟨by rw [am_set_len]; exact h.1, h'.1, h'.2.1, fun k w hk hn => ?_⟩
  refine h'.2.2 (k, am_cv ad w) ?_
  rcases am_set_get hk hn with ⟨rfl, rfl⟩ | ⟨h1, h2, h3⟩
  · exact List.mem_cons_self
  · refine List.mem_cons_of_mem _ (List.mem_filter.mpr ⟨am_lv_mem.mpr ⟨w, h2, hn, rfl⟩, ?_⟩)
    simp only [Bool.and_eq_true, Bool.not_eq_true', beq_eq_false_iff_ne, ne_eq, Bool.and_eq_false_iff, am_cv_cat]
    refine ⟨h1, ?_⟩
    by_cases q : k + 1 = i
    · exact Or.inr fun z => h3 ⟨q, z⟩
    · exact Or.inl q
theorem am_lR_at {ad : Nat → Nat} {lsm : Array Slot} {nL : Nat} {ls : List Value} (h : am_lR ad lsm nL ls) {k : Nat} {v : Value} (hk : ls[k]? = some v) (hn : v ≠ .null) : lsm[k]? = some (.val (am_cv ad v)) := h.2.2.2 k v hk hn
theorem am_lv_idx {ad : Nat → Nat} {ls : List Value} {k : Nat} {x : Int32} (h : ls[k]? = some (Value.int x)) : ∃ j : Nat, (am_lv ad ls)[j]? = some (k, Value.int x) := by
  apply List.getElem?_of_mem
  rw [am_lv_mem]
  exact ⟨Value.int x, h, fun q => (by cases q), rfl⟩
theorem am_ent_at (ad : Nat → Nat) : ∀ (as : List Value) (i k : Nat) (v : Value), (am_ent as)[k]? = some v → v ≠ .null → (i + k, am_cv ad v) ∈ lv_args i (as.map (am_cv ad))
  | [], _, _, _, h, _ => by simp [am_ent] at h
  | a :: as, i, k, v, h, hn => by
    by_cases c : a.category = 2
    · simp only [am_ent, if_pos c] at h
      show _ ∈ (i, am_cv ad a) :: lv_args (if (am_cv ad a).category = 2 then i + 2 else i + 1) (as.map (am_cv ad))
      rw [am_cv_cat, if_pos c]
      match k, h with
      | 0, h => cases h; exact List.mem_cons_self
      | 1, h => exact absurd (Option.some.inj h).symm hn
      | k + 2, h =>
        have h1 := am_ent_at ad as (i + 2) k v h hn
        rw [show i + (k + 2) = i + 2 + k by omega]
        exact List.mem_cons_of_mem _ h1
    · simp only [am_ent, if_neg c] at h
      show _ ∈ (i, am_cv ad a) :: lv_args (if (am_cv ad a).category = 2 then i + 2 else i + 1) (as.map (am_cv ad))
      rw [am_cv_cat, if_neg c]
      match k, h with
      | 0, h => cases h; exact List.mem_cons_self
      | k + 1, h =>
        have h1 := am_ent_at ad as (i + 1) k v h hn
        rw [show i + (k + 1) = i + 1 + k by omega]
        exact List.mem_cons_of_mem _ h1
theorem am_ent_len (ad : Nat → Nat) : ∀ (as : List Value), (lg_sl (as.map (am_cv ad))).length = (am_ent as).length
  | [] => rfl
  | a :: as => by
    have ih := am_ent_len ad as
    unfold lg_sl at ih ⊢
    rw [List.map_cons, List.flatMap_cons, List.length_append, ih, am_cv_cat]
    by_cases c : a.category = 2
    · simp [am_ent, c]; omega
    · simp [am_ent, c]; omega
theorem am_entry (ad : Nat → Nat) (as : List Value) {n : Nat} (h : (am_ent as).length ≤ n) : am_lR ad ((lg_sl (as.map (am_cv ad)) ++ List.replicate (n - (lg_sl (as.map (am_cv ad))).length) Slot.unset).toArray) n (am_pad (am_ent as) n) := by
  have h0 : (lg_sl (as.map (am_cv ad))).length ≤ n := by rw [am_ent_len]; exact h
  obtain ⟨h1, h2, h3⟩ := lv_entry (as.map (am_cv ad)) h0
  refine ⟨by unfold am_pad; rw [List.length_append, List.length_replicate]; omega, h1, h2, fun k v hk hn => ?_⟩
  refine h3 (k, am_cv ad v) ?_
  have hk' : (am_ent as)[k]? = some v := by
    unfold am_pad at hk
    by_cases c : k < (am_ent as).length
    · rwa [List.getElem?_append_left c] at hk
    · rw [List.getElem?_append_right (by omega), List.getElem?_replicate] at hk
      split at hk
      · exact absurd (Option.some.inj hk).symm hn
      · cases hk
  have := am_ent_at ad as 0 k v hk' hn
  rwa [Nat.zero_add] at this
theorem am_shp_nc {k t n : Nat} {fs : List Nat} (h : shp k = (t, n, fs)) (ht : t < 5) : k < am_NC := by
  refine Nat.lt_of_not_le fun hk => ?_
  have e : ∀ j, j < am_NC → Nat.beq k j = false := fun j hj => by
    rw [← Bool.not_eq_true, Nat.beq_eq]
    have : am_NC ≤ k := hk
    omega
  have l : ∀ j, j ≤ am_NC → Nat.blt k j = false := fun j hj => by
    rw [← Bool.not_eq_true, Nat.blt_eq]
    have : am_NC ≤ k := hk
    omega
  unfold shp at h
  simp only [l 30 (by decide), l 56 (by decide), l 69 (by decide), l 71 (by decide), l 77 (by decide), l 80 (by decide), e 71 (by decide), e 77 (by decide), e 80 (by decide), e 81 (by decide), cond_false] at h
  cases h1 : Nat.beq k 1000
  · rw [h1] at h
    cases h2 : Nat.beq k 1001
    · rw [h2] at h; cases h; omega
    · rw [h2] at h; cases h; omega
  · rw [h1] at h; cases h; omega
