/-! CONSTRUCTORS: their rows -/
def cn_T (D : va_G) (c4 : am_T4) (U : State) : Prop := va_K D vwCl (am_ty c4) U ∧ (∀ (j : Nat) (a : String) (i : Nat) (x : MethodName) (h : String), lw_tbl[j]? = some (Jvm.Cond.methodLinkNest a i x h) → va_Nw (Jvm.Cond.methodLinkNest a i x h) U) ∧ va_AO "ShelfNights$Kind" U ∧ mm_ok c4.1 c4.2.2.2 U ∧ (∀ (j : Nat) (a b : String), lw_tbl[j]? = some (Jvm.Cond.castable a b) → va_Nw (Jvm.Cond.castable a b) U)
theorem cn_T.warm {D : va_G} {c4 : am_T4} {s U : State} (h : cn_T D c4 s) (hW : s.WarmedH U.vm) : cn_T D c4 U := ⟨va_K.moved hW.alike h.1, fun j a i x hh hj => (h.2.1 j a i x hh hj).warmM hW, va_AO.moved hW.alike h.2.2.1, mm_ok.moved hW.alike h.2.2.2.1, fun j a b hj => (h.2.2.2.2 j a b hj).warmC hW⟩
abbrev cn_P (D : va_G) (c4 : am_T4) (w0 : va_W) (sz : Nat) (U : State) : Prop := U.heap.size = sz ∧ va_P D vwCl w0 U.heap ∧ cn_T D c4 U ∧ va_D (fun _ => True) w0
theorem cn_blind {D : va_G} {c4 : am_T4} {w0 : va_W} {sz : Nat} {av : List Value} : FrameBlind (va_Pc av (cn_P D c4 w0 sz)) := by
  intro a U g mk ⟨h1, h2, h3, ⟨k1, k2, k3, k4, k5⟩, h5⟩
  exact ⟨h1, h2, h3, ⟨va_K.moved (u := U) (U := U.calling g mk a) (Vm.Alike.refl U.vm) k1, fun j a' i x hh hj => (k2 j a' i x hh hj).same rfl rfl, va_AO.moved (u := U) (U := U.calling g mk a) (Vm.Alike.refl U.vm) k3, mm_ok.moved (u := U) (U := U.calling g mk a) (Vm.Alike.refl U.vm) k4, fun j a' b hj => (k5 j a' b hj).same rfl rfl⟩, h5⟩
theorem cn_in {w : Jvm.Cond} (h : w ∈ am_ws) : ∀ v ∈ w :: am_ws, v ∈ am_ws := fun v hv => by
  rcases List.mem_cons.mp hv with rfl | hv
  · exact h
  · exact hv
theorem cn_seven (a b c d e f g : Nat) : va_up (va_up (va_up (va_up (va_up (va_up (va_up (fun _ => none) 0 (some a)) 1 (some b)) 2 (some c)) 3 (some d)) 4 (some e)) 5 (some f)) 6 (some g) = fun i => [a, b, c, d, e, f, g][i]? := by
  funext i
  match i with
  | 0 | 1 | 2 | 3 | 4 | 5 | 6 => rfl
  | n + 7 => simp [va_up]
section CN
variable {p : Program} {l : Launch} {e : Env} {R : Room} {s : State} {m : MethodId} {args : Array Value} {below : List Frame} {meth : Method} {c : Code} {H : Heap} {locs : List Loc} {cells slots : Nat} {Q : State → Prop}
variable {cc : ByteArray} {pc : Nat} {ls : Array Slot} {rest : List Value} {D : va_G} {cl : List vw_C} {A : Nat → Prop} {tys : List (ClassId × FieldType)} {ws : va_W} {H0 : Heap}
theorem cn_newa (hexec : p.tables.exec = Jvm.exec) (hb : c.code = cc) {atype : ArrayType} (harr : (Cond.arrayClass (newarray.typeOf atype)).before args s = true) {ty : FieldType} (hty : newarray.typeOf atype = ty) (hK : va_K D cl tys s) (hP : va_P D cl ws H) (hD : va_D A ws) (hS : va_S A H0 H locs) (hA : ∀ q, H0.size ≤ q → A q)
    {cI : ClassId} (t0 : Nat) (ht : tys[t0]? = some (cI, ty)) (hra : va_RA s cI ty → s.vm.findClass ("[" ++ ty.toString) = some cI) {n : Int32} {N' : Nat} {a0 : vp_A} (ha : vp_cell cI a0 = arrV cI N' (fun _ => defaultValue ty)) (hn : ¬ n < 0) (hN : n.toNatClampNeg = N') (hbytes : N' * componentBytes ty ≤ 536870912) (hcells : cells + 1 ≤ R.cells) (hslots : slots + N' ≤ R.slots) (hdg : decode cc pc = .ok (.newarray atype, 2))
    (kk : ∀ (q : Nat) (H1 : Heap), va_P D cl (ws ++ [(q, .inl (cI, a0))]) H1 → va_D A (ws ++ [(q, .inl (cI, a0))]) → va_S A H0 H1 locs →
      W p l e R s m args below meth c H1 locs (cells + 1) (slots + N') Q (F0 m (pc + 2) ls (.ref q :: rest))) : W p l e R s m args below meth c H locs cells slots Q (F0 m pc ls (.int n :: rest)) := by
  subst hty
  have hcI := hra (hK.2 t0 _ ht).2
  refine va_newaK hexec hb harr rfl hdg rfl hn hN hbytes hcells hslots rfl fun H1 cA e1 z1 o1 hAr hNm => ?_
  have hcA : cA = cI := Option.some.inj (hNm.symm.trans hcI)
  subst hcA
  have hk : ∀ (k : Nat) (x : Nat × va_E), ws[k]? = some x → H1[x.1]? = H[x.1]? := fun k x hx => o1 x.1 ((hP k x hx).lt)
  refine kk H.size H1 ((hP.kept hk).app (fun k x hx => ?_)) (hD.push hP rfl (hA _ hS.1)) ⟨Nat.le_trans hS.1 (by omega), fun x h1 h2 => (o1 x (Nat.lt_of_lt_of_le h1 hS.1)).trans (hS.2.1 x h1 h2), hS.2.2⟩
  have hz : k < 1 := (List.getElem?_eq_some_iff.mp hx).1
  rw [show k = 0 by omega] at hx
  cases hx
  show H1[H.size]? = some (vp_cell _ _)
  rw [ha]
  exact e1
theorem cn_newq (hexec : p.tables.exec = Jvm.exec) (hb : c.code = cc) {own C : String} {index : Nat} (hown : s.vm.findClass own = some m.cls) (hclink : (Cond.classLink own index C).before args s = true) (hover : va_AO C s) (hK : va_K D cl tys s) (hP : va_P D cl ws H) (hD : va_D A ws) (hS : va_S A H0 H locs) (hA : ∀ q, H0.size ≤ q → A q)
    {cQ : ClassId} (t0 : Nat) (ht : tys[t0]? = some (cQ, .object C)) {n : Int32} {N' : Nat} (hn : ¬ n < 0) (hN : n.toNatClampNeg = N') (hbytes : N' * 4 ≤ 536870912) (hcells : cells + 1 ≤ R.cells) (hslots : slots + N' ≤ R.slots) (hdg : decode cc pc = .ok (.anewarray index, 3))
    (kk : ∀ (q : Nat) (H1 : Heap), va_P D cl (ws ++ [(q, .inl (cQ, N', .inr (.inr (.inr (.inr (fun _ => none))))))]) H1 → va_D A (ws ++ [(q, .inl (cQ, N', .inr (.inr (.inr (.inr (fun _ => none))))))]) → va_S A H0 H1 locs →
      W p l e R s m args below meth c H1 locs (cells + 1) (slots + N') Q (F0 m (pc + 3) ls (.ref q :: rest))) : W p l e R s m args below meth c H locs cells slots Q (F0 m pc ls (.int n :: rest)) := by
  refine va_newq hexec hb hown hclink hover hK hP hD hS hA hn hN hbytes hcells hslots hdg fun q cA H1 hK1 hP1 hD1 hS1 => ?_
  obtain ⟨_, _, -, -, -, h1⟩ := (hK.2 t0 _ ht).2
  obtain ⟨_, _, -, -, -, h2⟩ := (hK1.2 tys.length (cA, .object C) (by rw [List.getElem?_append_right (Nat.le_refl _), Nat.sub_self]; rfl)).2
  have hcA : cA = cQ := Option.some.inj (h2.symm.trans h1)
  subst hcA
  exact kk q H1 hP1 hD1 hS1
end CN
