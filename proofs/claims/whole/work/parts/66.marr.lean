/-! AN ARRAY OF FOUR NEW ARRAYS OF FORTY INTS, BY ONE INSTRUCTION -/
section MM
abbrev mm_z : Array Value := Array.replicate 40 (.int 0)
abbrev mm_i (c : ClassId) : Cell := { cls := c, slots := mm_z, vm := .none }
def mm_o (c : ClassId) (h : Nat) : Nat → Cell
  | 0 => { cls := c, slots := Array.replicate 4 .null, vm := .none }
  | i + 1 => (mm_o c h i).setSlot i (.ref (h + 1 + i))
def mm_t (s : State) (c cI : ClassId) : Nat → State
  | 0 => s.pushCell (mm_o c s.heap.size 0)
  | i + 1 => ((mm_t s c cI i).pushCell (mm_i cI)).setCell s.heap.size (mm_o c s.heap.size (i + 1))
theorem mm_o_ok (c : ClassId) (h i : Nat) : (mm_o c h i).cls = c ∧ (mm_o c h i).vm = .none ∧ (mm_o c h i).slots.size = 4 := by
  induction i with
  | zero => exact ⟨rfl, rfl, rfl⟩
  | succ i ih => exact ⟨ih.1, ih.2.1, by simp [mm_o, Cell.setSlot, ih.2.2]⟩
theorem mm_t_ok (s : State) (c cI : ClassId) (i : Nat) : (mm_t s c cI i).heap.size = s.heap.size + 1 + i ∧ (mm_t s c cI i).heap[s.heap.size]? = some (mm_o c s.heap.size i) ∧ (mm_t s c cI i).vm = s.vm ∧ (mm_t s c cI i).slotsUsed = s.slotsUsed + 4 + i * 40 ∧
    (∀ q, q < s.heap.size → (mm_t s c cI i).heap[q]? = s.heap[q]?) ∧ ∀ j, j < i → (mm_t s c cI i).heap[s.heap.size + 1 + j]? = some (mm_i cI) := by
  induction i with
  | zero => exact ⟨by simp [mm_t], by simp [mm_t], rfl, by simp [mm_t, mm_o], fun q hq => State.heap_pushCell_of_lt _ _ hq, fun j hj => absurd hj (Nat.not_lt_zero _)⟩
  | succ i ih =>
    obtain ⟨h1, h2, h3, h4, h5, h6⟩ := ih
    have l0 : s.heap.size < (mm_t s c cI i).heap.size := by omega
    have e0 : ((mm_t s c cI i).pushCell (mm_i cI)).heap[s.heap.size]? = some (mm_o c s.heap.size i) := by rw [State.heap_pushCell_of_lt (h := l0)]; exact h2
    refine ⟨by simp [mm_t, State.setCell, h1]; omega, State.heap_setCell_self e0, by simp [mm_t, h3], by simp [mm_t, h4]; omega, fun q hq => ?_, fun j hj => ?_⟩
    · show (((mm_t s c cI i).pushCell (mm_i cI)).setCell s.heap.size _).heap[q]? = _
      have l1 : q < (mm_t s c cI i).heap.size := by rw [h1]; omega
      rw [State.heap_setCell_other (Nat.ne_of_gt hq), State.heap_pushCell_of_lt (h := l1)]
      exact h5 q hq
    · show (((mm_t s c cI i).pushCell (mm_i cI)).setCell s.heap.size _).heap[s.heap.size + 1 + j]? = _
      rw [State.heap_setCell_other (show s.heap.size ≠ s.heap.size + 1 + j by omega)]
      by_cases hji : j = i
      · subst hji
        rw [← h1]
        exact State.heap_pushCell_size _ _
      · have l1 : s.heap.size + 1 + j < (mm_t s c cI i).heap.size := by rw [h1]; omega
        rw [State.heap_pushCell_of_lt (h := l1)]
        exact h6 j (by omega)
theorem mm_o_slots (c : ClassId) (h : Nat) : mm_o c h 4 = { cls := c, slots := #[.ref (h + 1), .ref (h + 2), .ref (h + 3), .ref (h + 4)], vm := .none } := rfl
variable {E : CtlPost} {e : Env} {d : Bool} {acts : List Action} {s : State}
theorem mm_na {c comp : ClassId} {k : Class} {type : FieldType} {len : Nat} {init : Value} (hk : s.vm.classes[c]? = some k) (hkind : k.kind = .array comp type)
    (h1 : ¬ len > e.platform.arrayLengthLimit) (h2 : ¬ len * componentBytes type > e.platform.maxHeapBytes) (hf : fits type init = true) (hd : init.isDefault = true)
    (h3 : s.heap.size < e.platform.maxCells) (h4 : s.slotsUsed + len ≤ e.platform.maxSlots) {Q : Addr → Pre}
    (hq : Q s.heap.size d acts (s.pushCell { cls := c, slots := Array.replicate len init, vm := .none })) : wp (Jvm.newArray c len init) Q E e d acts s := by
  have a1 : ((Array.replicate len init).all (·.isDefault)) = true := by
    rw [Array.all_replicate]; split <;> simp [hd]
  have a2 : allocActs (Array.replicate len init) s.heap.size acts = acts := by unfold allocActs; rw [if_pos a1]
  have a3 : ∀ i v, (Array.replicate len init)[i]? = some v → s.fitsSlot c .none i v = true := by
    intro i v hv
    rw [Array.getElem?_replicate] at hv
    split at hv
    · cases hv; simp [State.fitsSlot, State.slotType?, hk, hkind, hf]
    · cases hv
  simp only [Jvm.newArray, Jvm.arrayFits, wp_bind', W.ask, W.ite, h1, if_false, wp_pure', W.theClass, hk, hkind, h2, W.alloc, W.stop, Option.some.injEq, exists_eq_left', Array.size_replicate, a2]
  rw [if_neg (by omega)]
  exact ⟨h3, h4, a3, hq⟩
theorem mm_it {c cI cc : ClassId} {k kI : Class} (hk : s.vm.classes[c]? = some k) (hkind : k.kind = .array cI (.array .int)) (hkI : s.vm.classes[cI]? = some kI) (hkindI : kI.kind = .array cc .int) (hl : 512 ≤ e.platform.arrayLengthLimit) (hh : 512 ≤ e.platform.maxHeapBytes) {t : State} {i h0 : Nat} {cell : Cell}
    (hvm : t.vm = s.vm) (hc : t.heap[h0]? = some cell) (hcc : cell.cls = c) (hcv : cell.vm = .none) (hi : i < cell.slots.size) (hl0 : h0 < t.heap.size)
    (h3 : t.heap.size < e.platform.maxCells) (h4 : t.slotsUsed + 40 ≤ e.platform.maxSlots) {Q : PUnit → Pre}
    (hq : ∀ d' acts', Q PUnit.unit d' acts' ((t.pushCell (mm_i cI)).setCell h0 (cell.setSlot i (.ref t.heap.size)))) : wp (do writeLoc h0 i (.ref (← multianewarray.make cI [40]))) Q E e d acts t := by
  simp only [wp_bind', multianewarray.make, W.ite, show ¬ ((40 : Int32) < 0) by decide, if_false, W.theClass, hvm, hkI, hkindI, Option.some.injEq, exists_eq_left']
  refine mm_na (s := t) (comp := cc) (type := .int) (by rw [hvm]; exact hkI) hkindI (by show ¬ 40 > _; omega) (by show ¬ 40 * 4 > _; omega) rfl rfl h3 (by show _ + 40 ≤ _; omega) ?_
  simp only [W.writeLoc]
  refine ⟨cell, by rw [State.heap_pushCell_of_lt (h := hl0)]; exact hc, by rw [hcv]; simp, hi, ?_, hq _ _⟩
  rw [hcc, hcv]
  simp [State.fitsSlot, State.slotType?, hvm, hk, hkind]
  rfl
end MM
