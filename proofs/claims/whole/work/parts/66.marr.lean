/-! AN ARRAY OF FOUR NEW ARRAYS OF FORTY INTS, BY ONE INSTRUCTION -/
section MM
abbrev mm_z : Array Value := Array.replicate 40 (.int 0)
abbrev mm_i (c : ClassId) : Cell := { cls := c, slots := mm_z, vm := .none }
def mm_o (c : ClassId) (h : Nat) : Nat → Cell
  | 0 => { cls := c, slots := Array.replicate 4 .null, vm := .none }
  | i + 1 => (mm_o c h i).setSlot i (.ref (h + 1 + i))
def mm_t (s : State) (c cI : ClassId) : Nat → State
  | 0 => s.pushCell (mm_o c s.heap.size 0)
  | i + 1 => ((mm_t s c cI i).pushCell (mm_i cI)).setCell s.heap.size (mm_o c s.heap.size (i + 1))
theorem mm_o_ok (c : ClassId) (h i : Nat) : (mm_o c h i).cls = c ∧ (mm_o c h i).vm = .none ∧ (mm_o c h i).slots.size = 4 := by
  induction i with
  | zero => exact ⟨rfl, rfl, rfl⟩
  | succ i ih => exact ⟨ih.1, ih.2.1, by simp [mm_o, Cell.setSlot, ih.2.2]⟩
theorem mm_t_ok (s : State) (c cI : ClassId) (i : Nat) : (mm_t s c cI i).heap.size = s.heap.size + 1 + i ∧ (mm_t s c cI i).heap[s.heap.size]? = some (mm_o c s.heap.size i) ∧ (mm_t s c cI i).vm = s.vm ∧ (mm_t s c cI i).slotsUsed = s.slotsUsed + 4 + i * 40 ∧
    (∀ q, q < s.heap.size → (mm_t s c cI i).heap[q]? = s.heap[q]?) ∧ ∀ j, j < i → (mm_t s c cI i).heap[s.heap.size + 1 + j]? = some (mm_i cI) := by
  induction i with
  | zero => exact ⟨by simp [mm_t], by simp [mm_t], rfl, by simp [mm_t, mm_o], fun q hq => State.heap_pushCell_of_lt _ _ hq, fun j hj => absurd hj (Nat.not_lt_zero _)⟩
  | succ i ih =>
    obtain ⟨h1, h2, h3, h4, h5, h6⟩ := ih
    have l0 : s.heap.size < (mm_t s c cI i).heap.size := by omega
    have e0 : ((mm_t s c cI i).pushCell (mm_i cI)).heap[s.heap.size]? = some (mm_o c s.heap.size i) := by rw [State.heap_pushCell_of_lt (h := l0)]; exact h2
    refine ⟨by simp [mm_t, State.setCell, h1]; omega, State.heap_setCell_self e0, by simp [mm_t, h3], by simp [mm_t, h4]; omega, fun q hq => ?_, fun j hj => ?_⟩
    · show (((mm_t s c cI i).pushCell (mm_i cI)).setCell s.heap.size _).heap[q]? = _
      have l1 : q < (mm_t s c cI i).heap.size := by rw [h1]; omega
      rw [State.heap_setCell_other (Nat.ne_of_gt hq), State.heap_pushCell_of_lt (h := l1)]
      exact h5 q hq
    · show (((mm_t s c cI i).pushCell (mm_i cI)).setCell s.heap.size _).heap[s.heap.size + 1 + j]? = _
      rw [State.heap_setCell_other (show s.heap.size ≠ s.heap.size + 1 + j by omega)]
      by_cases hji : j = i
      · subst hji
        rw [← h1]
        exact State.heap_pushCell_size _ _
      · have l1 : s.heap.size + 1 + j < (mm_t s c cI i).heap.size := by rw [h1]; omega
        rw [State.heap_pushCell_of_lt (h := l1)]
        exact h6 j (by omega)
theorem mm_o_slots (c : ClassId) (h : Nat) : mm_o c h 4 = { cls := c, slots := #[.ref (h + 1), .ref (h + 2), .ref (h + 3), .ref (h + 4)], vm := .none } := rfl
variable {E : CtlPost} {e : Env} {d : Bool} {acts : List Action} {s : State}
theorem mm_na {c comp : ClassId} {k : Class} {type : FieldType} {len : Nat} {init : Value} (hk : s.vm.classes[c]? = some k) (hkind : k.kind = .array comp type)
    (h1 : ¬ len > e.platform.arrayLengthLimit) (h2 : ¬ len * componentBytes type > e.platform.maxHeapBytes) (hf : fits type init = true) (hd : init.isDefault = true)
    (h3 : s.heap.size < e.platform.maxCells) (h4 : s.slotsUsed + len ≤ e.platform.maxSlots) {Q : Addr → Pre}
    (hq : Q s.heap.size d acts (s.pushCell { cls := c, slots := Array.replicate len init, vm := .none })) : wp (Jvm.newArray c len init) Q E e d acts s := by
  have a1 : ((Array.replicate len init).all (·.isDefault)) = true := by
    rw [Array.all_replicate]; split <;> simp [hd]
  have a2 : allocActs (Array.replicate len init) s.heap.size acts = acts := by unfold allocActs; rw [if_pos a1]
  have a3 : ∀ i v, (Array.replicate len init)[i]? = some v → s.fitsSlot c .none i v = true := by
    intro i v hv
    rw [Array.getElem?_replicate] at hv
    split at hv
    · cases hv; simp [State.fitsSlot, State.slotType?, hk, hkind, hf]
    · cases hv
  simp only [Jvm.newArray, Jvm.arrayFits, wp_bind', W.ask, W.ite, h1, if_false, wp_pure', W.theClass, hk, hkind, h2, W.alloc, W.stop, Option.some.injEq, exists_eq_left', Array.size_replicate, a2]
  rw [if_neg (by omega)]
  exact ⟨h3, h4, a3, hq⟩
theorem mm_make {c cI cc : ClassId} {k kI : Class} (hk : s.vm.classes[c]? = some k) (hkind : k.kind = .array cI (.array .int)) (hkI : s.vm.classes[cI]? = some kI) (hkindI : kI.kind = .array cc .int) (hl : 512 ≤ e.platform.arrayLengthLimit) (hh : 512 ≤ e.platform.maxHeapBytes)
    (h3 : s.heap.size + 5 ≤ e.platform.maxCells) (h4 : s.slotsUsed + 164 ≤ e.platform.maxSlots) {Q : Addr → Pre} (hq : ∀ d' acts', Q s.heap.size d' acts' (mm_t s c cI 4)) : wp (multianewarray.make c [4, 40]) Q E e d acts s := by
  rw [multianewarray.make]
  simp only [wp_bind', W.ite, show ¬ ((4 : Int32) < 0) by decide, if_false, wp_pure', W.theClass, hk, hkind, Option.some.injEq, exists_eq_left']
  refine mm_na hk hkind (by show ¬ 4 > _; omega) (by show ¬ 4 * 4 > _; omega) rfl rfl (by omega) (by show _ + 4 ≤ _; omega) ?_
  simp only [show ((4 : Int32) == 0) = false by decide, Bool.false_eq_true, if_false]
  simp only [wp_bind', Std.Legacy.Range.forIn_eq_forIn_range']
  show wp (forIn (List.range' 0 4 1) PUnit.unit _) _ E e d acts _
  refine wp_forIn_inv (fun rest s' => ∃ i, i ≤ 4 ∧ rest = List.range' i (4 - i) ∧ s' = mm_t s c cI i) _ _ ⟨0, by decide, rfl, rfl⟩ ?_ ?_
  · rintro x rest s' d' acts' Q' ⟨i, hi, hr, rfl⟩ hnext
    have hlt : i < 4 := by
      rcases Nat.lt_or_ge i 4 with h | h
      · exact h
      · rw [show 4 - i = 0 by omega] at hr; simp at hr
    rw [show 4 - i = (4 - (i + 1)) + 1 by omega, List.range'_succ] at hr
    obtain ⟨rfl, hr2⟩ := List.cons.inj hr
    obtain ⟨f1, f2, f3, f4, -, -⟩ := mm_t_ok s c cI x
    obtain ⟨o1, o2, o3⟩ := mm_o_ok c s.heap.size x
    have l0 : s.heap.size < (mm_t s c cI x).heap.size := by omega
    simp only [wp_bind', multianewarray.make, W.ite, show ¬ ((40 : Int32) < 0) by decide, if_false, W.theClass, f3, hkI, hkindI, Option.some.injEq, exists_eq_left']
    refine mm_na (s := mm_t s c cI x) (comp := cc) (type := .int) (by rw [f3]; exact hkI) hkindI (by show ¬ 40 > _; omega) (by show ¬ 40 * 4 > _; omega) rfl rfl (by omega) (by rw [f4]; show _ + 40 ≤ _; omega) ?_
    simp only [wp_bind', W.writeLoc, wp_pure']
    refine ⟨mm_o c s.heap.size x, by rw [State.heap_pushCell_of_lt (h := l0)]; exact f2, by rw [o2]; simp, by rw [o3]; exact hlt, ?_, hnext _ _ _ ⟨x + 1, hlt, hr2, ?_⟩⟩
    · rw [o1, o2]
      simp [State.fitsSlot, State.slotType?, f3, hk, hkind, fits]
    · rw [f1]; rfl
  · rintro s' d' acts' ⟨i, hi, hr, rfl⟩
    have hi4 : i = 4 := by
      rcases Nat.lt_or_ge i 4 with h | h
      · rw [show 4 - i = (4 - (i + 1)) + 1 by omega, List.range'_succ] at hr; cases hr
      · omega
    subst hi4
    simp only [wp_pure']
    exact hq _ _
theorem mm_t_top (s : State) (f : JFrame) (c cI : ClassId) (i : Nat) : mm_t (s.setTop f) c cI i = (mm_t s c cI i).setTop f := by
  induction i with
  | zero => rfl
  | succ i ih => simp only [mm_t, ih, State.heap_setTop, State.pushCell_setTop, State.setCell_setTop]
end MM
section MMW
variable {p : Program} {l : Launch} {e : Env} {R : Room} {s : State} {m : MethodId} {args : Array Value} {below : List Frame} {meth : Method} {c : Code} {H : Heap} {locs : List Loc} {cells slots : Nat} {Q : State → Prop}
theorem mm_stand {T : State} (X : Stand p l e R s m args below meth c T locs cells slots) (cO cI : ClassId) (i : Nat) : ∃ L : List Loc, (∀ q ∈ L, q.base = T.heap.size) ∧ Stand p l e R s m args below meth c (mm_t T cO cI i) (locs ++ L) (cells + 1 + i) (slots + 4 + i * 40) := by
  induction i with
  | zero =>
    have h := X.pushed (mm_o cO T.heap.size 0)
    exact ⟨[], (fun q h => by cases h), by simpa [mm_t, mm_o] using h⟩
  | succ i ih =>
    obtain ⟨L, hL, Xi⟩ := ih
    obtain ⟨f1, f2, f3, f4, -, -⟩ := mm_t_ok T cO cI i
    have l0 : T.heap.size < (mm_t T cO cI i).heap.size := by omega
    have hcell : ((mm_t T cO cI i).pushCell (mm_i cI)).heap[T.heap.size]? = some (mm_o cO T.heap.size i) := by rw [State.heap_pushCell_of_lt (h := l0)]; exact f2
    have h := (Xi.pushed (mm_i cI)).stored hcell i (.ref (T.heap.size + 1 + i))
    refine ⟨L ++ [⟨T.heap.size, i⟩], fun q hq => ?_, ?_⟩
    · rcases List.mem_append.mp hq with h1 | h1
      · exact hL q h1
      · rw [List.mem_singleton.mp h1]
    · have e1 : slots + 4 + (i + 1) * 40 = slots + 4 + i * 40 + 40 := by omega
      rw [e1, ← List.append_assoc]
      exact h
def mm_ok (cI cO : ClassId) (U : State) : Prop := ∃ (k kI : Class) (cc : ClassId), U.vm.classes[cO]? = some k ∧ k.kind = .array cI (.array .int) ∧ U.vm.classes[cI]? = some kI ∧ kI.kind = .array cc .int ∧ U.vm.findClass "[[I" = some cO
theorem mm_ok.moved {cI cO : ClassId} {u U : State} (hvm : u.vm.Alike U.vm) (h : mm_ok cI cO u) : mm_ok cI cO U := by
  obtain ⟨k, kI, cc, h1, h2, h3, h4, h5⟩ := h
  obtain ⟨k', hk', he⟩ := hvm.2.2 _ _ h1
  obtain ⟨kI', hkI', heI⟩ := hvm.2.2 _ _ h3
  exact ⟨k', kI', cc, hk', by rw [he]; exact h2, hkI', by rw [heI]; exact h4, by rw [hvm.findClass]; exact h5⟩
theorem mm_W {cc : ByteArray} (hexec : p.tables.exec = Jvm.exec) (hb : c.code = cc) {own : String} {index : Nat} (hown : s.vm.findClass own = some m.cls) (hclink : (Cond.classLink own index "[[I").before args s = true) {cI cO : ClassId} (hok : mm_ok cI cO s)
    {g : JFrame} (hg : g.method = m) (hdg : decode cc g.pc = .ok (.multianewarray index 2, 4)) {rest : List Value} (hstack : g.stack = .int 40 :: .int 4 :: rest) (hcells : cells + 5 ≤ R.cells) (hslots : slots + 164 ≤ R.slots)
    (kk : ∀ (H1 : Heap) (L : List Loc), H1.size = H.size + 5 → H1[H.size]? = some (mm_o cO H.size 4) → (∀ j, j < 4 → H1[H.size + 1 + j]? = some (mm_i cI)) → (∀ q, q < H.size → H1[q]? = H[q]?) → (∀ q ∈ L, q.base = H.size) →
      W p l e R s m args below meth c H1 (locs ++ L) (cells + 5) (slots + 164) Q { g with pc := g.pc + 4, stack := .ref H.size :: rest }) : W p l e R s m args below meth c H locs cells slots Q g := by
  intro T hT X
  subst hT; subst hb; subst hg
  have hpl : e.platform.magicAccessors = ({} : Platform).magicAccessors := by rw [X.admits.platform]
  obtain ⟨k, kI, cc, h1, h2, h3, h4, h5⟩ := hok
  obtain ⟨c0, hfc0, hcl⟩ := Cond.classLink_spec hown hclink e.platform hpl
  cases h5.symm.trans hfc0
  obtain ⟨hg₁, hwarm₁, hready₁⟩ := State.classEntry (e := e) X.warmed hcl
  generalize T.vm.noted g.method.cls index (.cls cO) = vm₁ at hg₁ hwarm₁ hready₁
  have hal : s.vm.Alike vm₁ := hwarm₁.alike
  obtain ⟨k₁, hk₁, hek⟩ := hal.2.2 _ _ h1
  obtain ⟨kI₁, hkI₁, heI⟩ := hal.2.2 _ _ h3
  have X₁ := X.noted hwarm₁
  obtain ⟨hr1, hr2⟩ := X.roomAbove hcells hslots
  obtain ⟨L, hL, X₂⟩ := mm_stand X₁ cO cI 4
  obtain ⟨f1, f2, f3, f4, f5, f6⟩ := mm_t_ok (T.setVm vm₁) cO cI 4
  obtain ⟨t', a1, b1⟩ := kk _ L f1 f2 f6 f5 hL (mm_t (T.setVm vm₁) cO cI 4) (by rfl) (by simpa using X₂)
  refine ⟨t', ?_, b1⟩
  jvm_step X.here [hexec, hdg]
  simp only [multianewarray.sem, wp_bind', W.resolveClassAt_links (State.method?_setTop g X.here.top) hg₁]
  rw [W.popN, if_neg (by decide)]
  refine ⟨g, State.topJava?_setTop' (s := T.setVm vm₁) g X.here.top, [.int 4, .int 40], rest, rfl, hstack, ?_⟩
  simp only [List.mapM_cons, List.mapM_nil, wp_bind', wp_pure']
  refine mm_make (k := k₁) (kI := kI₁) (cc := cc) hk₁ (by rw [hek]; exact h2) hkI₁ (by rw [heI]; exact h4) (by rw [Launch.admits_arrayLengthLimit X.admits]; decide) (by rw [Launch.admits_maxHeapBytes X.admits]; decide) (by show T.heap.size + 5 ≤ _; omega) (by show T.slotsUsed + 164 ≤ _; omega) (fun d' acts' => ?_)
  have eS : ((T.setTop g).setVm vm₁).setTop { g with stack := rest } = (T.setVm vm₁).setTop { g with stack := rest } := by
    show ((T.setVm vm₁).setTop g).setTop _ = _
    rw [State.setTop_setTop]
  rw [eS, mm_t_top]
  simp only [wp_bind', W.mark, W.pushRef, State.topJava?_setTop' _ X₂.here.top, Option.some.injEq, exists_eq_left', State.setTop_setTop, State.heap_setTop]
  intro acts
  simp [jvm, X₂.here.top]
  exact a1
variable {cc : ByteArray} {pc : Nat} {ls : Array Slot} {rest : List Value} {D : va_G} {cl : List vw_C} {A : Nat → Prop} {a : Nat} {tys : List (ClassId × FieldType)} {ws : va_W} {H0 : Heap}
/-- in the world: the array, then its four -/
theorem mm_va (hexec : p.tables.exec = Jvm.exec) (hb : c.code = cc) {own : String} {index : Nat} (hown : s.vm.findClass own = some m.cls) (hclink : (Cond.classLink own index "[[I").before args s = true) {cI cO : ClassId} (hok : mm_ok cI cO s) (hP : va_P D cl ws H) (hD : va_D A ws) (hS : va_S A H0 H locs) (hA : ∀ q, H0.size ≤ q → A q)
    (hcells : cells + 5 ≤ R.cells) (hslots : slots + 164 ≤ R.slots) (hdg : decode cc pc = .ok (.multianewarray index 2, 4))
    (kk : ∀ (q q1 q2 q3 q4 : Nat) (H1 : Heap) (locs1 : List Loc), va_P D cl (ws ++ [(q, .inl (cO, 4, .inr (.inr (.inr (.inr (fun i => [q1, q2, q3, q4][i]?)))))), (q1, .inl (cI, 40, .inl (fun _ => 0))), (q2, .inl (cI, 40, .inl (fun _ => 0))), (q3, .inl (cI, 40, .inl (fun _ => 0))), (q4, .inl (cI, 40, .inl (fun _ => 0)))]) H1 →
      va_D A (ws ++ [(q, .inl (cO, 4, .inr (.inr (.inr (.inr (fun i => [q1, q2, q3, q4][i]?)))))), (q1, .inl (cI, 40, .inl (fun _ => 0))), (q2, .inl (cI, 40, .inl (fun _ => 0))), (q3, .inl (cI, 40, .inl (fun _ => 0))), (q4, .inl (cI, 40, .inl (fun _ => 0)))]) → va_S A H0 H1 locs1 →
      W p l e R s m args below meth c H1 locs1 (cells + 5) (slots + 164) Q (F0 m (pc + 4) ls (.ref q :: rest))) : W p l e R s m args below meth c H locs cells slots Q (F0 m pc ls (.int 40 :: .int 4 :: rest)) := by
  refine mm_W hexec hb hown hclink hok rfl hdg rfl hcells hslots fun H1 L z e0 e1 o hL => ?_
  have hlt : ∀ (k : Nat) (x : Nat × va_E), ws[k]? = some x → x.1 < H.size := fun k x hx => (hP k x hx).lt
  refine kk H.size (H.size + 1) (H.size + 2) (H.size + 3) (H.size + 4) H1 (locs ++ L) ((hP.kept fun k x hx => o x.1 (hlt k x hx)).app fun k x hx => ?_) (va_D.app hD ⟨fun i j x y hi hj hxy => ?_, fun k x hx => ?_⟩ fun i j x y hx hy hxy => ?_) ⟨Nat.le_trans hS.1 (by omega), fun x h1 h2 => (o x (Nat.lt_of_lt_of_le h1 hS.1)).trans (hS.2.1 x h1 h2), fun q hq => ?_⟩
  · match k, hx with
    | 0, hx =>
      cases hx
      show H1[H.size]? = some (vp_cell _ _)
      rw [e0]
      rfl
    | 1, hx =>
      cases hx
      show H1[H.size + 1]? = some (arrV cI 40 (fun _ => .int 0))
      rw [← arrV_new]
      exact e1 0 (by decide)
    | 2, hx =>
      cases hx
      show H1[H.size + 2]? = some (arrV cI 40 (fun _ => .int 0))
      rw [← arrV_new]
      exact e1 1 (by decide)
    | 3, hx =>
      cases hx
      show H1[H.size + 3]? = some (arrV cI 40 (fun _ => .int 0))
      rw [← arrV_new]
      exact e1 2 (by decide)
    | 4, hx =>
      cases hx
      show H1[H.size + 4]? = some (arrV cI 40 (fun _ => .int 0))
      rw [← arrV_new]
      exact e1 3 (by decide)
    | k + 5, hx => cases hx
  · have key : ∀ (i : Nat) (x : Nat × va_E), ([(H.size, .inl (cO, 4, .inr (.inr (.inr (.inr (fun i => [H.size + 1, H.size + 2, H.size + 3, H.size + 4][i]?)))))), (H.size + 1, .inl (cI, 40, .inl (fun _ => 0))), (H.size + 2, .inl (cI, 40, .inl (fun _ => 0))), (H.size + 3, .inl (cI, 40, .inl (fun _ => 0))), (H.size + 4, .inl (cI, 40, .inl (fun _ => 0)))] : va_W)[i]? = some x → x.1 = H.size + i := fun i x hx => by
      match i, hx with
      | 0, hx => cases hx; rfl
      | 1, hx => cases hx; rfl
      | 2, hx => cases hx; rfl
      | 3, hx => cases hx; rfl
      | 4, hx => cases hx; rfl
      | k + 5, hx => cases hx
    have a1 := key i x hi
    have a2 := key j y hj
    omega
  · refine hA x.1 (Nat.le_trans hS.1 ?_)
    match k, hx with
    | 0, hx => cases hx; exact Nat.le_refl _
    | 1, hx => cases hx; exact Nat.le_add_right _ _
    | 2, hx => cases hx; exact Nat.le_add_right _ _
    | 3, hx => cases hx; exact Nat.le_add_right _ _
    | 4, hx => cases hx; exact Nat.le_add_right _ _
    | k + 5, hx => cases hx
  · have l1 := hlt i x hx
    rw [hxy] at l1
    match j, hy with
    | 0, hy => cases hy; exact Nat.lt_irrefl _ l1
    | 1, hy => cases hy; exact absurd l1 (by show ¬ H.size + 1 < H.size; omega)
    | 2, hy => cases hy; exact absurd l1 (by show ¬ H.size + 2 < H.size; omega)
    | 3, hy => cases hy; exact absurd l1 (by show ¬ H.size + 3 < H.size; omega)
    | 4, hy => cases hy; exact absurd l1 (by show ¬ H.size + 4 < H.size; omega)
    | k + 5, hy => cases hy
  · rcases List.mem_append.mp hq with h | h
    · exact hS.2.2 q h
    · rw [hL q h]
      exact hA _ hS.1
end MMW
