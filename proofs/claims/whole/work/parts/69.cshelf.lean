/-! constructors: cshelf -/
set_option maxHeartbeats 1000000 in
set_option maxRecDepth 100000 in
/-- Shelf() -/
theorem c_X8 (l : Launch) (D : va_G) (c4 : am_T4) (h0 : Nat) (k0 : Nat) (sz : Nat) : Met l yX8_init (Jvm.Cond.code yX8_init cX8_init 2 none :: am_ws) ({ frames := 1, cells := 6, slots := 66, locals := 40 }) (va_Pc [.ref h0, .ref k0] (cn_P D c4 ([(h0, .inr (8, [.null, .null, .null, .null, .null, .null, .null, .int 0, .int 0]))] : va_W) sz)) (va_Qv (fun _ : List Nat => True) (fun u t => va_P D vwCl [(h0, .inr (8, [.ref k0, .ref (u.getD 0 0), .ref (u.getD 1 0), .ref (u.getD 2 0), .ref (u.getD 3 0), .ref (u.getD 4 0), .ref (u.getD 5 0), .int 0, .int 0])), ((u.getD 0 0), .inl (c4.1, 6, .inl (fun _ => 0))), ((u.getD 1 0), .inl (c4.1, 6, .inl (fun _ => 0))), ((u.getD 2 0), .inl (c4.2.1, 6, .inl (fun _ => 0))), ((u.getD 3 0), .inl (c4.1, 36, .inl (fun _ => 0))), ((u.getD 4 0), .inl (c4.1, 6, .inl (fun _ => 0))), ((u.getD 5 0), .inl (c4.1, 6, .inl (fun _ => 0)))] t.heap ∧ va_D (va_A ([(h0, .inr (8, [.null, .null, .null, .null, .null, .null, .null, .int 0, .int 0]))] : va_W) sz) [(h0, .inr (8, [.ref k0, .ref (u.getD 0 0), .ref (u.getD 1 0), .ref (u.getD 2 0), .ref (u.getD 3 0), .ref (u.getD 4 0), .ref (u.getD 5 0), .int 0, .int 0])), ((u.getD 0 0), .inl (c4.1, 6, .inl (fun _ => 0))), ((u.getD 1 0), .inl (c4.1, 6, .inl (fun _ => 0))), ((u.getD 2 0), .inl (c4.2.1, 6, .inl (fun _ => 0))), ((u.getD 3 0), .inl (c4.1, 36, .inl (fun _ => 0))), ((u.getD 4 0), .inl (c4.1, 6, .inl (fun _ => 0))), ((u.getD 5 0), .inl (c4.1, 6, .inl (fun _ => 0)))]) (va_A ([(h0, .inr (8, [.null, .null, .null, .null, .null, .null, .null, .int 0, .int 0]))] : va_W) sz)) 6 66 (va_A ([(h0, .inr (8, [.null, .null, .null, .null, .null, .null, .null, .int 0, .int 0]))] : va_W) sz) := by
  refine Met.ofW (cc := cX8_init) (maxL := 2) (ret := none) (by decide) rfl ?_
  intro p e s m args below meth c s₁ B hml hv
  obtain ⟨rfl, hsz, hP, hT, hD0⟩ := hv
  have hx := B.exec
  have hb := B.bytes
  have hr := B.returns
  have hts : ∀ w ∈ am_ws, w.before _ s = true := fun w hw => atoms_spec (ws := Jvm.Cond.code yX8_init cX8_init 2 none :: am_ws) B.pre w (List.mem_cons_of_mem _ hw)
  have hown : s.vm.findClass RX8 = some m.cls := findClass_of_methodNamed B.named
  have hlocks := B.notSynchronized
  have hin : meth.name = "<init>" := (name_of_methodNamed B.named B.method).1
  subst hsz
  have hD := hD0.self (sz := s.heap.size)
  generalize hAe : va_A ([(h0, .inr (8, [.null, .null, .null, .null, .null, .null, .null, .int 0, .int 0]))] : va_W) s.heap.size = A at hD ⊢
  have hA : ∀ q : Nat, s.heap.size ≤ q → A q := fun q h => by rw [← hAe]; exact Or.inr h
  have hS : va_S A s.heap s.heap [] := va_S.rf
  have hl := lv_entry ([.ref h0, .ref k0]) (n := 2) (Nat.le_of_ble_eq_true rfl)
  rw [lg_entry_eq]
  generalize (lg_sl ([.ref h0, .ref k0]) ++ List.replicate (2 - (lg_sl ([.ref h0, .ref k0])).length) Slot.unset).toArray = ls at hl ⊢
  have hl : lv_has ls 2 [(0, .ref h0), (1, .ref k0)] := hl
  have hP : va_P D vwCl [(h0, .inr (8, [.null, .null, .null, .null, .null, .null, .null, .int 0, .int 0]))] s.heap := hP
  have hD : va_D A [(h0, .inr (8, [.null, .null, .null, .null, .null, .null, .null, .int 0, .int 0]))] := hD
  refine lv_aload_n hx hb (show decode cX8_init 0 = .ok (.aload_n 0, 1) by decide +kernel) rfl (lv_at hl 0 rfl) ?_
  refine W.objInit hx hb hown (hts (.methodLink RX8 3 objectInit) (am_word (i := 146) (by decide +kernel) (by decide +kernel))) (hts (.instanceMethod objectInit) (am_word (i := 89) (by decide +kernel) (by decide +kernel))) (hts (.code objectInit ⟨#[0xb1]⟩ 1 none) (am_word (i := 90) (by decide +kernel) (by decide +kernel))) rfl (by rw [hml]; exact hl.1) rfl (show decode cX8_init 1 = .ok (.invokespecial 3, 3) by decide +kernel) (Nat.le_of_ble_eq_true rfl) (Nat.le_of_ble_eq_true rfl) ?_
  refine W.eq (g2 := F0 m 4 ls []) rfl ?_
  refine lv_aload_n hx hb (show decode cX8_init 4 = .ok (.aload_n 0, 1) by decide +kernel) rfl (lv_at hl 0 rfl) ?_
  refine lv_bipush (v := 6) hx hb (show decode cX8_init 5 = .ok (.bipush 6, 2) by decide +kernel) (by decide +kernel) ?_
  refine cn_newa (atype := .int) (ty := .int) (cI := c4.1) (n := 6) (N' := 6) (a0 := (6, .inl (fun _ => 0))) hx hb (hts (.arrayClass .int) (am_word (i := 182) (by decide +kernel) (by decide +kernel))) rfl hT.1 hP hD hS hA 0 rfl (fun h => h) rfl (by decide +kernel) (by decide +kernel) (Nat.le_of_ble_eq_true rfl) (Nat.le_of_ble_eq_true rfl) (Nat.le_of_ble_eq_true rfl) (show decode cX8_init 7 = .ok (.newarray .int, 2) by decide +kernel) (fun q7 H hP hD hS => ?_)
  have hP : va_P D vwCl [(h0, .inr (8, [.null, .null, .null, .null, .null, .null, .null, .int 0, .int 0])), (q7, .inl (c4.1, 6, .inl (fun _ => 0)))] H := hP
  have hD : va_D A [(h0, .inr (8, [.null, .null, .null, .null, .null, .null, .null, .int 0, .int 0])), (q7, .inl (c4.1, 6, .inl (fun _ => 0)))] := hD
  refine va_putF (D := D) (ci := 8) (v := .ref q7) (ty := .array (.int)) (C := RX8) (T := TX8) (N := 9) hx hb hts (am_cls 8 _ rfl).2.2 tyX8 tyX8_ok nmX8 hown hT.1 hP hD hS 0 rfl rfl 1 (by decide) (hts (.fieldLink RX8 9 "ShelfNights$Shelf" "kind" "[I") (am_word (i := 148) (by decide +kernel) (by decide +kernel))) (fun _ h9 => h9) rfl hin rfl (by decide +kernel) rfl rfl (Nat.le_of_ble_eq_true rfl) (show decode cX8_init 9 = .ok (.putfield 9, 3) by decide +kernel) (fun H locs hP hD hS => ?_)
  have hP : va_P D vwCl [(h0, .inr (8, [.null, .ref q7, .null, .null, .null, .null, .null, .int 0, .int 0])), (q7, .inl (c4.1, 6, .inl (fun _ => 0)))] H := hP
  have hD : va_D A [(h0, .inr (8, [.null, .ref q7, .null, .null, .null, .null, .null, .int 0, .int 0])), (q7, .inl (c4.1, 6, .inl (fun _ => 0)))] := hD
  refine lv_aload_n hx hb (show decode cX8_init 12 = .ok (.aload_n 0, 1) by decide +kernel) rfl (lv_at hl 0 rfl) ?_
  refine lv_bipush (v := 6) hx hb (show decode cX8_init 13 = .ok (.bipush 6, 2) by decide +kernel) (by decide +kernel) ?_
  refine cn_newa (atype := .int) (ty := .int) (cI := c4.1) (n := 6) (N' := 6) (a0 := (6, .inl (fun _ => 0))) hx hb (hts (.arrayClass .int) (am_word (i := 182) (by decide +kernel) (by decide +kernel))) rfl hT.1 hP hD hS hA 0 rfl (fun h => h) rfl (by decide +kernel) (by decide +kernel) (Nat.le_of_ble_eq_true rfl) (Nat.le_of_ble_eq_true rfl) (Nat.le_of_ble_eq_true rfl) (show decode cX8_init 15 = .ok (.newarray .int, 2) by decide +kernel) (fun q15 H hP hD hS => ?_)
  have hP : va_P D vwCl [(h0, .inr (8, [.null, .ref q7, .null, .null, .null, .null, .null, .int 0, .int 0])), (q7, .inl (c4.1, 6, .inl (fun _ => 0))), (q15, .inl (c4.1, 6, .inl (fun _ => 0)))] H := hP
  have hD : va_D A [(h0, .inr (8, [.null, .ref q7, .null, .null, .null, .null, .null, .int 0, .int 0])), (q7, .inl (c4.1, 6, .inl (fun _ => 0))), (q15, .inl (c4.1, 6, .inl (fun _ => 0)))] := hD
  refine va_putF (D := D) (ci := 8) (v := .ref q15) (ty := .array (.int)) (C := RX8) (T := TX8) (N := 9) hx hb hts (am_cls 8 _ rfl).2.2 tyX8 tyX8_ok nmX8 hown hT.1 hP hD hS 0 rfl rfl 2 (by decide) (hts (.fieldLink RX8 15 "ShelfNights$Shelf" "m" "[I") (am_word (i := 150) (by decide +kernel) (by decide +kernel))) (fun _ h9 => h9) rfl hin rfl (by decide +kernel) rfl rfl (Nat.le_of_ble_eq_true rfl) (show decode cX8_init 17 = .ok (.putfield 15, 3) by decide +kernel) (fun H locs hP hD hS => ?_)
  have hP : va_P D vwCl [(h0, .inr (8, [.null, .ref q7, .ref q15, .null, .null, .null, .null, .int 0, .int 0])), (q7, .inl (c4.1, 6, .inl (fun _ => 0))), (q15, .inl (c4.1, 6, .inl (fun _ => 0)))] H := hP
  have hD : va_D A [(h0, .inr (8, [.null, .ref q7, .ref q15, .null, .null, .null, .null, .int 0, .int 0])), (q7, .inl (c4.1, 6, .inl (fun _ => 0))), (q15, .inl (c4.1, 6, .inl (fun _ => 0)))] := hD
  refine lv_aload_n hx hb (show decode cX8_init 20 = .ok (.aload_n 0, 1) by decide +kernel) rfl (lv_at hl 0 rfl) ?_
  refine lv_bipush (v := 6) hx hb (show decode cX8_init 21 = .ok (.bipush 6, 2) by decide +kernel) (by decide +kernel) ?_
  refine cn_newa (atype := .boolean) (ty := .boolean) (cI := c4.2.1) (n := 6) (N' := 6) (a0 := (6, .inl (fun _ => 0))) hx hb (hts (.arrayClass .boolean) (am_word (i := 183) (by decide +kernel) (by decide +kernel))) rfl hT.1 hP hD hS hA 1 rfl (fun h => h) rfl (by decide +kernel) (by decide +kernel) (Nat.le_of_ble_eq_true rfl) (Nat.le_of_ble_eq_true rfl) (Nat.le_of_ble_eq_true rfl) (show decode cX8_init 23 = .ok (.newarray .boolean, 2) by decide +kernel) (fun q23 H hP hD hS => ?_)
  have hP : va_P D vwCl [(h0, .inr (8, [.null, .ref q7, .ref q15, .null, .null, .null, .null, .int 0, .int 0])), (q7, .inl (c4.1, 6, .inl (fun _ => 0))), (q15, .inl (c4.1, 6, .inl (fun _ => 0))), (q23, .inl (c4.2.1, 6, .inl (fun _ => 0)))] H := hP
  have hD : va_D A [(h0, .inr (8, [.null, .ref q7, .ref q15, .null, .null, .null, .null, .int 0, .int 0])), (q7, .inl (c4.1, 6, .inl (fun _ => 0))), (q15, .inl (c4.1, 6, .inl (fun _ => 0))), (q23, .inl (c4.2.1, 6, .inl (fun _ => 0)))] := hD
  refine va_putF (D := D) (ci := 8) (v := .ref q23) (ty := .array (.boolean)) (C := RX8) (T := TX8) (N := 9) hx hb hts (am_cls 8 _ rfl).2.2 tyX8 tyX8_ok nmX8 hown hT.1 hP hD hS 0 rfl rfl 3 (by decide) (hts (.fieldLink RX8 18 "ShelfNights$Shelf" "glass" "[Z") (am_word (i := 152) (by decide +kernel) (by decide +kernel))) (fun _ h9 => h9) rfl hin rfl (by decide +kernel) rfl rfl (Nat.le_of_ble_eq_true rfl) (show decode cX8_init 25 = .ok (.putfield 18, 3) by decide +kernel) (fun H locs hP hD hS => ?_)
  have hP : va_P D vwCl [(h0, .inr (8, [.null, .ref q7, .ref q15, .ref q23, .null, .null, .null, .int 0, .int 0])), (q7, .inl (c4.1, 6, .inl (fun _ => 0))), (q15, .inl (c4.1, 6, .inl (fun _ => 0))), (q23, .inl (c4.2.1, 6, .inl (fun _ => 0)))] H := hP
  have hD : va_D A [(h0, .inr (8, [.null, .ref q7, .ref q15, .ref q23, .null, .null, .null, .int 0, .int 0])), (q7, .inl (c4.1, 6, .inl (fun _ => 0))), (q15, .inl (c4.1, 6, .inl (fun _ => 0))), (q23, .inl (c4.2.1, 6, .inl (fun _ => 0)))] := hD
  refine lv_aload_n hx hb (show decode cX8_init 28 = .ok (.aload_n 0, 1) by decide +kernel) rfl (lv_at hl 0 rfl) ?_
  refine lv_bipush (v := 36) hx hb (show decode cX8_init 29 = .ok (.bipush 36, 2) by decide +kernel) (by decide +kernel) ?_
  refine cn_newa (atype := .int) (ty := .int) (cI := c4.1) (n := 36) (N' := 36) (a0 := (36, .inl (fun _ => 0))) hx hb (hts (.arrayClass .int) (am_word (i := 182) (by decide +kernel) (by decide +kernel))) rfl hT.1 hP hD hS hA 0 rfl (fun h => h) rfl (by decide +kernel) (by decide +kernel) (Nat.le_of_ble_eq_true rfl) (Nat.le_of_ble_eq_true rfl) (Nat.le_of_ble_eq_true rfl) (show decode cX8_init 31 = .ok (.newarray .int, 2) by decide +kernel) (fun q31 H hP hD hS => ?_)
  have hP : va_P D vwCl [(h0, .inr (8, [.null, .ref q7, .ref q15, .ref q23, .null, .null, .null, .int 0, .int 0])), (q7, .inl (c4.1, 6, .inl (fun _ => 0))), (q15, .inl (c4.1, 6, .inl (fun _ => 0))), (q23, .inl (c4.2.1, 6, .inl (fun _ => 0))), (q31, .inl (c4.1, 36, .inl (fun _ => 0)))] H := hP
  have hD : va_D A [(h0, .inr (8, [.null, .ref q7, .ref q15, .ref q23, .null, .null, .null, .int 0, .int 0])), (q7, .inl (c4.1, 6, .inl (fun _ => 0))), (q15, .inl (c4.1, 6, .inl (fun _ => 0))), (q23, .inl (c4.2.1, 6, .inl (fun _ => 0))), (q31, .inl (c4.1, 36, .inl (fun _ => 0)))] := hD
  refine va_putF (D := D) (ci := 8) (v := .ref q31) (ty := .array (.int)) (C := RX8) (T := TX8) (N := 9) hx hb hts (am_cls 8 _ rfl).2.2 tyX8 tyX8_ok nmX8 hown hT.1 hP hD hS 0 rfl rfl 4 (by decide) (hts (.fieldLink RX8 22 "ShelfNights$Shelf" "pages" "[I") (am_word (i := 154) (by decide +kernel) (by decide +kernel))) (fun _ h9 => h9) rfl hin rfl (by decide +kernel) rfl rfl (Nat.le_of_ble_eq_true rfl) (show decode cX8_init 33 = .ok (.putfield 22, 3) by decide +kernel) (fun H locs hP hD hS => ?_)
  have hP : va_P D vwCl [(h0, .inr (8, [.null, .ref q7, .ref q15, .ref q23, .ref q31, .null, .null, .int 0, .int 0])), (q7, .inl (c4.1, 6, .inl (fun _ => 0))), (q15, .inl (c4.1, 6, .inl (fun _ => 0))), (q23, .inl (c4.2.1, 6, .inl (fun _ => 0))), (q31, .inl (c4.1, 36, .inl (fun _ => 0)))] H := hP
  have hD : va_D A [(h0, .inr (8, [.null, .ref q7, .ref q15, .ref q23, .ref q31, .null, .null, .int 0, .int 0])), (q7, .inl (c4.1, 6, .inl (fun _ => 0))), (q15, .inl (c4.1, 6, .inl (fun _ => 0))), (q23, .inl (c4.2.1, 6, .inl (fun _ => 0))), (q31, .inl (c4.1, 36, .inl (fun _ => 0)))] := hD
  refine lv_aload_n hx hb (show decode cX8_init 36 = .ok (.aload_n 0, 1) by decide +kernel) rfl (lv_at hl 0 rfl) ?_
  refine lv_bipush (v := 6) hx hb (show decode cX8_init 37 = .ok (.bipush 6, 2) by decide +kernel) (by decide +kernel) ?_
  refine cn_newa (atype := .int) (ty := .int) (cI := c4.1) (n := 6) (N' := 6) (a0 := (6, .inl (fun _ => 0))) hx hb (hts (.arrayClass .int) (am_word (i := 182) (by decide +kernel) (by decide +kernel))) rfl hT.1 hP hD hS hA 0 rfl (fun h => h) rfl (by decide +kernel) (by decide +kernel) (Nat.le_of_ble_eq_true rfl) (Nat.le_of_ble_eq_true rfl) (Nat.le_of_ble_eq_true rfl) (show decode cX8_init 39 = .ok (.newarray .int, 2) by decide +kernel) (fun q39 H hP hD hS => ?_)
  have hP : va_P D vwCl [(h0, .inr (8, [.null, .ref q7, .ref q15, .ref q23, .ref q31, .null, .null, .int 0, .int 0])), (q7, .inl (c4.1, 6, .inl (fun _ => 0))), (q15, .inl (c4.1, 6, .inl (fun _ => 0))), (q23, .inl (c4.2.1, 6, .inl (fun _ => 0))), (q31, .inl (c4.1, 36, .inl (fun _ => 0))), (q39, .inl (c4.1, 6, .inl (fun _ => 0)))] H := hP
  have hD : va_D A [(h0, .inr (8, [.null, .ref q7, .ref q15, .ref q23, .ref q31, .null, .null, .int 0, .int 0])), (q7, .inl (c4.1, 6, .inl (fun _ => 0))), (q15, .inl (c4.1, 6, .inl (fun _ => 0))), (q23, .inl (c4.2.1, 6, .inl (fun _ => 0))), (q31, .inl (c4.1, 36, .inl (fun _ => 0))), (q39, .inl (c4.1, 6, .inl (fun _ => 0)))] := hD
  refine va_putF (D := D) (ci := 8) (v := .ref q39) (ty := .array (.int)) (C := RX8) (T := TX8) (N := 9) hx hb hts (am_cls 8 _ rfl).2.2 tyX8 tyX8_ok nmX8 hown hT.1 hP hD hS 0 rfl rfl 5 (by decide) (hts (.fieldLink RX8 25 "ShelfNights$Shelf" "row" "[I") (am_word (i := 156) (by decide +kernel) (by decide +kernel))) (fun _ h9 => h9) rfl hin rfl (by decide +kernel) rfl rfl (Nat.le_of_ble_eq_true rfl) (show decode cX8_init 41 = .ok (.putfield 25, 3) by decide +kernel) (fun H locs hP hD hS => ?_)
  have hP : va_P D vwCl [(h0, .inr (8, [.null, .ref q7, .ref q15, .ref q23, .ref q31, .ref q39, .null, .int 0, .int 0])), (q7, .inl (c4.1, 6, .inl (fun _ => 0))), (q15, .inl (c4.1, 6, .inl (fun _ => 0))), (q23, .inl (c4.2.1, 6, .inl (fun _ => 0))), (q31, .inl (c4.1, 36, .inl (fun _ => 0))), (q39, .inl (c4.1, 6, .inl (fun _ => 0)))] H := hP
  have hD : va_D A [(h0, .inr (8, [.null, .ref q7, .ref q15, .ref q23, .ref q31, .ref q39, .null, .int 0, .int 0])), (q7, .inl (c4.1, 6, .inl (fun _ => 0))), (q15, .inl (c4.1, 6, .inl (fun _ => 0))), (q23, .inl (c4.2.1, 6, .inl (fun _ => 0))), (q31, .inl (c4.1, 36, .inl (fun _ => 0))), (q39, .inl (c4.1, 6, .inl (fun _ => 0)))] := hD
  refine lv_aload_n hx hb (show decode cX8_init 44 = .ok (.aload_n 0, 1) by decide +kernel) rfl (lv_at hl 0 rfl) ?_
  refine lv_bipush (v := 6) hx hb (show decode cX8_init 45 = .ok (.bipush 6, 2) by decide +kernel) (by decide +kernel) ?_
  refine cn_newa (atype := .int) (ty := .int) (cI := c4.1) (n := 6) (N' := 6) (a0 := (6, .inl (fun _ => 0))) hx hb (hts (.arrayClass .int) (am_word (i := 182) (by decide +kernel) (by decide +kernel))) rfl hT.1 hP hD hS hA 0 rfl (fun h => h) rfl (by decide +kernel) (by decide +kernel) (Nat.le_of_ble_eq_true rfl) (Nat.le_of_ble_eq_true rfl) (Nat.le_of_ble_eq_true rfl) (show decode cX8_init 47 = .ok (.newarray .int, 2) by decide +kernel) (fun q47 H hP hD hS => ?_)
  have hP : va_P D vwCl [(h0, .inr (8, [.null, .ref q7, .ref q15, .ref q23, .ref q31, .ref q39, .null, .int 0, .int 0])), (q7, .inl (c4.1, 6, .inl (fun _ => 0))), (q15, .inl (c4.1, 6, .inl (fun _ => 0))), (q23, .inl (c4.2.1, 6, .inl (fun _ => 0))), (q31, .inl (c4.1, 36, .inl (fun _ => 0))), (q39, .inl (c4.1, 6, .inl (fun _ => 0))), (q47, .inl (c4.1, 6, .inl (fun _ => 0)))] H := hP
  have hD : va_D A [(h0, .inr (8, [.null, .ref q7, .ref q15, .ref q23, .ref q31, .ref q39, .null, .int 0, .int 0])), (q7, .inl (c4.1, 6, .inl (fun _ => 0))), (q15, .inl (c4.1, 6, .inl (fun _ => 0))), (q23, .inl (c4.2.1, 6, .inl (fun _ => 0))), (q31, .inl (c4.1, 36, .inl (fun _ => 0))), (q39, .inl (c4.1, 6, .inl (fun _ => 0))), (q47, .inl (c4.1, 6, .inl (fun _ => 0)))] := hD
  refine va_putF (D := D) (ci := 8) (v := .ref q47) (ty := .array (.int)) (C := RX8) (T := TX8) (N := 9) hx hb hts (am_cls 8 _ rfl).2.2 tyX8 tyX8_ok nmX8 hown hT.1 hP hD hS 0 rfl rfl 6 (by decide) (hts (.fieldLink RX8 28 "ShelfNights$Shelf" "gives" "[I") (am_word (i := 158) (by decide +kernel) (by decide +kernel))) (fun _ h9 => h9) rfl hin rfl (by decide +kernel) rfl rfl (Nat.le_of_ble_eq_true rfl) (show decode cX8_init 49 = .ok (.putfield 28, 3) by decide +kernel) (fun H locs hP hD hS => ?_)
  have hP : va_P D vwCl [(h0, .inr (8, [.null, .ref q7, .ref q15, .ref q23, .ref q31, .ref q39, .ref q47, .int 0, .int 0])), (q7, .inl (c4.1, 6, .inl (fun _ => 0))), (q15, .inl (c4.1, 6, .inl (fun _ => 0))), (q23, .inl (c4.2.1, 6, .inl (fun _ => 0))), (q31, .inl (c4.1, 36, .inl (fun _ => 0))), (q39, .inl (c4.1, 6, .inl (fun _ => 0))), (q47, .inl (c4.1, 6, .inl (fun _ => 0)))] H := hP
  have hD : va_D A [(h0, .inr (8, [.null, .ref q7, .ref q15, .ref q23, .ref q31, .ref q39, .ref q47, .int 0, .int 0])), (q7, .inl (c4.1, 6, .inl (fun _ => 0))), (q15, .inl (c4.1, 6, .inl (fun _ => 0))), (q23, .inl (c4.2.1, 6, .inl (fun _ => 0))), (q31, .inl (c4.1, 36, .inl (fun _ => 0))), (q39, .inl (c4.1, 6, .inl (fun _ => 0))), (q47, .inl (c4.1, 6, .inl (fun _ => 0)))] := hD
  refine lv_aload_n hx hb (show decode cX8_init 52 = .ok (.aload_n 0, 1) by decide +kernel) rfl (lv_at hl 0 rfl) ?_
  refine lv_aload_n hx hb (show decode cX8_init 53 = .ok (.aload_n 1, 1) by decide +kernel) rfl (lv_at hl 1 rfl) ?_
  refine va_putF (D := D) (ci := 8) (v := .ref k0) (ty := .array (.object "ShelfNights$Kind")) (C := RX8) (T := TX8) (N := 9) hx hb hts (am_cls 8 _ rfl).2.2 tyX8 tyX8_ok nmX8 hown hT.1 hP hD hS 0 rfl rfl 0 (by decide) (hts (.fieldLink RX8 31 "ShelfNights$Shelf" "kinds" "[LShelfNights$Kind;") (am_word (i := 147) (by decide +kernel) (by decide +kernel))) (fun _ h9 => h9) rfl hin rfl (by decide +kernel) rfl rfl (Nat.le_of_ble_eq_true rfl) (show decode cX8_init 54 = .ok (.putfield 31, 3) by decide +kernel) (fun H locs hP hD hS => ?_)
  have hP : va_P D vwCl [(h0, .inr (8, [.ref k0, .ref q7, .ref q15, .ref q23, .ref q31, .ref q39, .ref q47, .int 0, .int 0])), (q7, .inl (c4.1, 6, .inl (fun _ => 0))), (q15, .inl (c4.1, 6, .inl (fun _ => 0))), (q23, .inl (c4.2.1, 6, .inl (fun _ => 0))), (q31, .inl (c4.1, 36, .inl (fun _ => 0))), (q39, .inl (c4.1, 6, .inl (fun _ => 0))), (q47, .inl (c4.1, 6, .inl (fun _ => 0)))] H := hP
  have hD : va_D A [(h0, .inr (8, [.ref k0, .ref q7, .ref q15, .ref q23, .ref q31, .ref q39, .ref q47, .int 0, .int 0])), (q7, .inl (c4.1, 6, .inl (fun _ => 0))), (q15, .inl (c4.1, 6, .inl (fun _ => 0))), (q23, .inl (c4.2.1, 6, .inl (fun _ => 0))), (q31, .inl (c4.1, 36, .inl (fun _ => 0))), (q39, .inl (c4.1, 6, .inl (fun _ => 0))), (q47, .inl (c4.1, 6, .inl (fun _ => 0)))] := hD
  refine W.widen (k := 6) (n := 66) (Nat.le_of_ble_eq_true rfl) (Nat.le_of_ble_eq_true rfl) ?_
  exact W.vret hx hb hr (fun t ht hW => ⟨⟨[q7, q15, q23, q31, q39, q47], rfl, trivial, by rw [ht]; exact hP, hD⟩, hS.F ht⟩) hS.2.2 (show decode cX8_init 57 = .ok (.return_, 1) by decide +kernel)
set_option maxHeartbeats 1000000 in
set_option maxRecDepth 100000 in
/-- Text() -/
theorem c_X10 (l : Launch) (D : va_G) (c4 : am_T4) (h0 : Nat) (sz : Nat) : Met l yX10_init (Jvm.Cond.code yX10_init cX10_init 1 none :: am_ws) ({ frames := 1, cells := 3, slots := 150, locals := 40 }) (va_Pc [.ref h0] (cn_P D c4 ([(h0, .inr (10, [.null, .int 0, .null, .null, .int 0, .int 0, .int 0, .int 0]))] : va_W) sz)) (va_Qv (fun _ : List Nat => True) (fun u t => va_P D vwCl [(h0, .inr (10, [.ref (u.getD 0 0), .int 0, .ref (u.getD 1 0), .ref (u.getD 2 0), .int 0, .int 0, .int 0, .int 0])), ((u.getD 0 0), .inl (c4.1, 50, .inl (fun _ => 0))), ((u.getD 1 0), .inl (c4.1, 50, .inl (fun _ => 0))), ((u.getD 2 0), .inl (c4.1, 50, .inl (fun _ => 0)))] t.heap ∧ va_D (va_A ([(h0, .inr (10, [.null, .int 0, .null, .null, .int 0, .int 0, .int 0, .int 0]))] : va_W) sz) [(h0, .inr (10, [.ref (u.getD 0 0), .int 0, .ref (u.getD 1 0), .ref (u.getD 2 0), .int 0, .int 0, .int 0, .int 0])), ((u.getD 0 0), .inl (c4.1, 50, .inl (fun _ => 0))), ((u.getD 1 0), .inl (c4.1, 50, .inl (fun _ => 0))), ((u.getD 2 0), .inl (c4.1, 50, .inl (fun _ => 0)))]) (va_A ([(h0, .inr (10, [.null, .int 0, .null, .null, .int 0, .int 0, .int 0, .int 0]))] : va_W) sz)) 3 150 (va_A ([(h0, .inr (10, [.null, .int 0, .null, .null, .int 0, .int 0, .int 0, .int 0]))] : va_W) sz) := by
  refine Met.ofW (cc := cX10_init) (maxL := 1) (ret := none) (by decide) rfl ?_
  intro p e s m args below meth c s₁ B hml hv
  obtain ⟨rfl, hsz, hP, hT, hD0⟩ := hv
  have hx := B.exec
  have hb := B.bytes
  have hr := B.returns
  have hts : ∀ w ∈ am_ws, w.before _ s = true := fun w hw => atoms_spec (ws := Jvm.Cond.code yX10_init cX10_init 1 none :: am_ws) B.pre w (List.mem_cons_of_mem _ hw)
  have hown : s.vm.findClass RX10 = some m.cls := findClass_of_methodNamed B.named
  have hlocks := B.notSynchronized
  have hin : meth.name = "<init>" := (name_of_methodNamed B.named B.method).1
  subst hsz
  have hD := hD0.self (sz := s.heap.size)
  generalize hAe : va_A ([(h0, .inr (10, [.null, .int 0, .null, .null, .int 0, .int 0, .int 0, .int 0]))] : va_W) s.heap.size = A at hD ⊢
  have hA : ∀ q : Nat, s.heap.size ≤ q → A q := fun q h => by rw [← hAe]; exact Or.inr h
  have hS : va_S A s.heap s.heap [] := va_S.rf
  have hl := lv_entry ([.ref h0]) (n := 1) (Nat.le_of_ble_eq_true rfl)
  rw [lg_entry_eq]
  generalize (lg_sl ([.ref h0]) ++ List.replicate (1 - (lg_sl ([.ref h0])).length) Slot.unset).toArray = ls at hl ⊢
  have hl : lv_has ls 1 [(0, .ref h0)] := hl
  have hP : va_P D vwCl [(h0, .inr (10, [.null, .int 0, .null, .null, .int 0, .int 0, .int 0, .int 0]))] s.heap := hP
  have hD : va_D A [(h0, .inr (10, [.null, .int 0, .null, .null, .int 0, .int 0, .int 0, .int 0]))] := hD
  refine lv_aload_n hx hb (show decode cX10_init 0 = .ok (.aload_n 0, 1) by decide +kernel) rfl (lv_at hl 0 rfl) ?_
  refine W.objInit hx hb hown (hts (.methodLink RX10 3 objectInit) (am_word (i := 195) (by decide +kernel) (by decide +kernel))) (hts (.instanceMethod objectInit) (am_word (i := 89) (by decide +kernel) (by decide +kernel))) (hts (.code objectInit ⟨#[0xb1]⟩ 1 none) (am_word (i := 90) (by decide +kernel) (by decide +kernel))) rfl (by rw [hml]; exact hl.1) rfl (show decode cX10_init 1 = .ok (.invokespecial 3, 3) by decide +kernel) (Nat.le_of_ble_eq_true rfl) (Nat.le_of_ble_eq_true rfl) ?_
  refine W.eq (g2 := F0 m 4 ls []) rfl ?_
  refine lv_aload_n hx hb (show decode cX10_init 4 = .ok (.aload_n 0, 1) by decide +kernel) rfl (lv_at hl 0 rfl) ?_
  refine lv_bipush (v := 50) hx hb (show decode cX10_init 5 = .ok (.bipush 50, 2) by decide +kernel) (by decide +kernel) ?_
  refine cn_newa (atype := .int) (ty := .int) (cI := c4.1) (n := 50) (N' := 50) (a0 := (50, .inl (fun _ => 0))) hx hb (hts (.arrayClass .int) (am_word (i := 182) (by decide +kernel) (by decide +kernel))) rfl hT.1 hP hD hS hA 0 rfl (fun h => h) rfl (by decide +kernel) (by decide +kernel) (Nat.le_of_ble_eq_true rfl) (Nat.le_of_ble_eq_true rfl) (Nat.le_of_ble_eq_true rfl) (show decode cX10_init 7 = .ok (.newarray .int, 2) by decide +kernel) (fun q7 H hP hD hS => ?_)
  have hP : va_P D vwCl [(h0, .inr (10, [.null, .int 0, .null, .null, .int 0, .int 0, .int 0, .int 0])), (q7, .inl (c4.1, 50, .inl (fun _ => 0)))] H := hP
  have hD : va_D A [(h0, .inr (10, [.null, .int 0, .null, .null, .int 0, .int 0, .int 0, .int 0])), (q7, .inl (c4.1, 50, .inl (fun _ => 0)))] := hD
  refine va_putF (D := D) (ci := 10) (v := .ref q7) (ty := .array (.int)) (C := RX10) (T := TX10) (N := 8) hx hb hts (am_cls 10 _ rfl).2.2 tyX10 tyX10_ok nmX10 hown hT.1 hP hD hS 0 rfl rfl 0 (by decide) (hts (.fieldLink RX10 9 "ShelfNights$Text" "code" "[I") (am_word (i := 196) (by decide +kernel) (by decide +kernel))) (fun _ h9 => h9) rfl hin rfl (by decide +kernel) rfl rfl (Nat.le_of_ble_eq_true rfl) (show decode cX10_init 9 = .ok (.putfield 9, 3) by decide +kernel) (fun H locs hP hD hS => ?_)
  have hP : va_P D vwCl [(h0, .inr (10, [.ref q7, .int 0, .null, .null, .int 0, .int 0, .int 0, .int 0])), (q7, .inl (c4.1, 50, .inl (fun _ => 0)))] H := hP
  have hD : va_D A [(h0, .inr (10, [.ref q7, .int 0, .null, .null, .int 0, .int 0, .int 0, .int 0])), (q7, .inl (c4.1, 50, .inl (fun _ => 0)))] := hD
  refine lv_aload_n hx hb (show decode cX10_init 12 = .ok (.aload_n 0, 1) by decide +kernel) rfl (lv_at hl 0 rfl) ?_
  refine lv_bipush (v := 50) hx hb (show decode cX10_init 13 = .ok (.bipush 50, 2) by decide +kernel) (by decide +kernel) ?_
  refine cn_newa (atype := .int) (ty := .int) (cI := c4.1) (n := 50) (N' := 50) (a0 := (50, .inl (fun _ => 0))) hx hb (hts (.arrayClass .int) (am_word (i := 182) (by decide +kernel) (by decide +kernel))) rfl hT.1 hP hD hS hA 0 rfl (fun h => h) rfl (by decide +kernel) (by decide +kernel) (Nat.le_of_ble_eq_true rfl) (Nat.le_of_ble_eq_true rfl) (Nat.le_of_ble_eq_true rfl) (show decode cX10_init 15 = .ok (.newarray .int, 2) by decide +kernel) (fun q15 H hP hD hS => ?_)
  have hP : va_P D vwCl [(h0, .inr (10, [.ref q7, .int 0, .null, .null, .int 0, .int 0, .int 0, .int 0])), (q7, .inl (c4.1, 50, .inl (fun _ => 0))), (q15, .inl (c4.1, 50, .inl (fun _ => 0)))] H := hP
  have hD : va_D A [(h0, .inr (10, [.ref q7, .int 0, .null, .null, .int 0, .int 0, .int 0, .int 0])), (q7, .inl (c4.1, 50, .inl (fun _ => 0))), (q15, .inl (c4.1, 50, .inl (fun _ => 0)))] := hD
  refine va_putF (D := D) (ci := 10) (v := .ref q15) (ty := .array (.int)) (C := RX10) (T := TX10) (N := 8) hx hb hts (am_cls 10 _ rfl).2.2 tyX10 tyX10_ok nmX10 hown hT.1 hP hD hS 0 rfl rfl 2 (by decide) (hts (.fieldLink RX10 15 "ShelfNights$Text" "worths" "[I") (am_word (i := 198) (by decide +kernel) (by decide +kernel))) (fun _ h9 => h9) rfl hin rfl (by decide +kernel) rfl rfl (Nat.le_of_ble_eq_true rfl) (show decode cX10_init 17 = .ok (.putfield 15, 3) by decide +kernel) (fun H locs hP hD hS => ?_)
  have hP : va_P D vwCl [(h0, .inr (10, [.ref q7, .int 0, .ref q15, .null, .int 0, .int 0, .int 0, .int 0])), (q7, .inl (c4.1, 50, .inl (fun _ => 0))), (q15, .inl (c4.1, 50, .inl (fun _ => 0)))] H := hP
  have hD : va_D A [(h0, .inr (10, [.ref q7, .int 0, .ref q15, .null, .int 0, .int 0, .int 0, .int 0])), (q7, .inl (c4.1, 50, .inl (fun _ => 0))), (q15, .inl (c4.1, 50, .inl (fun _ => 0)))] := hD
  refine lv_aload_n hx hb (show decode cX10_init 20 = .ok (.aload_n 0, 1) by decide +kernel) rfl (lv_at hl 0 rfl) ?_
  refine lv_bipush (v := 50) hx hb (show decode cX10_init 21 = .ok (.bipush 50, 2) by decide +kernel) (by decide +kernel) ?_
  refine cn_newa (atype := .int) (ty := .int) (cI := c4.1) (n := 50) (N' := 50) (a0 := (50, .inl (fun _ => 0))) hx hb (hts (.arrayClass .int) (am_word (i := 182) (by decide +kernel) (by decide +kernel))) rfl hT.1 hP hD hS hA 0 rfl (fun h => h) rfl (by decide +kernel) (by decide +kernel) (Nat.le_of_ble_eq_true rfl) (Nat.le_of_ble_eq_true rfl) (Nat.le_of_ble_eq_true rfl) (show decode cX10_init 23 = .ok (.newarray .int, 2) by decide +kernel) (fun q23 H hP hD hS => ?_)
  have hP : va_P D vwCl [(h0, .inr (10, [.ref q7, .int 0, .ref q15, .null, .int 0, .int 0, .int 0, .int 0])), (q7, .inl (c4.1, 50, .inl (fun _ => 0))), (q15, .inl (c4.1, 50, .inl (fun _ => 0))), (q23, .inl (c4.1, 50, .inl (fun _ => 0)))] H := hP
  have hD : va_D A [(h0, .inr (10, [.ref q7, .int 0, .ref q15, .null, .int 0, .int 0, .int 0, .int 0])), (q7, .inl (c4.1, 50, .inl (fun _ => 0))), (q15, .inl (c4.1, 50, .inl (fun _ => 0))), (q23, .inl (c4.1, 50, .inl (fun _ => 0)))] := hD
  refine va_putF (D := D) (ci := 10) (v := .ref q23) (ty := .array (.int)) (C := RX10) (T := TX10) (N := 8) hx hb hts (am_cls 10 _ rfl).2.2 tyX10 tyX10_ok nmX10 hown hT.1 hP hD hS 0 rfl rfl 3 (by decide) (hts (.fieldLink RX10 18 "ShelfNights$Text" "signs" "[I") (am_word (i := 199) (by decide +kernel) (by decide +kernel))) (fun _ h9 => h9) rfl hin rfl (by decide +kernel) rfl rfl (Nat.le_of_ble_eq_true rfl) (show decode cX10_init 25 = .ok (.putfield 18, 3) by decide +kernel) (fun H locs hP hD hS => ?_)
  have hP : va_P D vwCl [(h0, .inr (10, [.ref q7, .int 0, .ref q15, .ref q23, .int 0, .int 0, .int 0, .int 0])), (q7, .inl (c4.1, 50, .inl (fun _ => 0))), (q15, .inl (c4.1, 50, .inl (fun _ => 0))), (q23, .inl (c4.1, 50, .inl (fun _ => 0)))] H := hP
  have hD : va_D A [(h0, .inr (10, [.ref q7, .int 0, .ref q15, .ref q23, .int 0, .int 0, .int 0, .int 0])), (q7, .inl (c4.1, 50, .inl (fun _ => 0))), (q15, .inl (c4.1, 50, .inl (fun _ => 0))), (q23, .inl (c4.1, 50, .inl (fun _ => 0)))] := hD
  refine W.widen (k := 3) (n := 150) (Nat.le_of_ble_eq_true rfl) (Nat.le_of_ble_eq_true rfl) ?_
  exact W.vret hx hb hr (fun t ht hW => ⟨⟨[q7, q15, q23], rfl, trivial, by rw [ht]; exact hP, hD⟩, hS.F ht⟩) hS.2.2 (show decode cX10_init 28 = .ok (.return_, 1) by decide +kernel)
set_option maxHeartbeats 1000000 in
set_option maxRecDepth 100000 in
/-- Speaker() -/
theorem c_X9 (l : Launch) (D : va_G) (c4 : am_T4) (h0 : Nat) (sz : Nat) : Met l yX9_init (Jvm.Cond.code yX9_init cX9_init 1 none :: am_ws) ({ frames := 1, cells := 1, slots := 40, locals := 40 }) (va_Pc [.ref h0] (cn_P D c4 ([(h0, .inr (9, [.null, .int 0, .int 0, .int 0]))] : va_W) sz)) (va_Qv (fun _ : List Nat => True) (fun u t => va_P D vwCl [(h0, .inr (9, [.ref (u.getD 0 0), .int 0, .int 0, .int 0])), ((u.getD 0 0), .inl (c4.1, 40, .inl (fun _ => 0)))] t.heap ∧ va_D (va_A ([(h0, .inr (9, [.null, .int 0, .int 0, .int 0]))] : va_W) sz) [(h0, .inr (9, [.ref (u.getD 0 0), .int 0, .int 0, .int 0])), ((u.getD 0 0), .inl (c4.1, 40, .inl (fun _ => 0)))]) (va_A ([(h0, .inr (9, [.null, .int 0, .int 0, .int 0]))] : va_W) sz)) 1 40 (va_A ([(h0, .inr (9, [.null, .int 0, .int 0, .int 0]))] : va_W) sz) := by
  refine Met.ofW (cc := cX9_init) (maxL := 1) (ret := none) (by decide) rfl ?_
  intro p e s m args below meth c s₁ B hml hv
  obtain ⟨rfl, hsz, hP, hT, hD0⟩ := hv
  have hx := B.exec
  have hb := B.bytes
  have hr := B.returns
  have hts : ∀ w ∈ am_ws, w.before _ s = true := fun w hw => atoms_spec (ws := Jvm.Cond.code yX9_init cX9_init 1 none :: am_ws) B.pre w (List.mem_cons_of_mem _ hw)
  have hown : s.vm.findClass RX9 = some m.cls := findClass_of_methodNamed B.named
  have hlocks := B.notSynchronized
  have hin : meth.name = "<init>" := (name_of_methodNamed B.named B.method).1
  subst hsz
  have hD := hD0.self (sz := s.heap.size)
  generalize hAe : va_A ([(h0, .inr (9, [.null, .int 0, .int 0, .int 0]))] : va_W) s.heap.size = A at hD ⊢
  have hA : ∀ q : Nat, s.heap.size ≤ q → A q := fun q h => by rw [← hAe]; exact Or.inr h
  have hS : va_S A s.heap s.heap [] := va_S.rf
  have hl := lv_entry ([.ref h0]) (n := 1) (Nat.le_of_ble_eq_true rfl)
  rw [lg_entry_eq]
  generalize (lg_sl ([.ref h0]) ++ List.replicate (1 - (lg_sl ([.ref h0])).length) Slot.unset).toArray = ls at hl ⊢
  have hl : lv_has ls 1 [(0, .ref h0)] := hl
  have hP : va_P D vwCl [(h0, .inr (9, [.null, .int 0, .int 0, .int 0]))] s.heap := hP
  have hD : va_D A [(h0, .inr (9, [.null, .int 0, .int 0, .int 0]))] := hD
  refine lv_aload_n hx hb (show decode cX9_init 0 = .ok (.aload_n 0, 1) by decide +kernel) rfl (lv_at hl 0 rfl) ?_
  refine W.objInit hx hb hown (hts (.methodLink RX9 3 objectInit) (am_word (i := 257) (by decide +kernel) (by decide +kernel))) (hts (.instanceMethod objectInit) (am_word (i := 89) (by decide +kernel) (by decide +kernel))) (hts (.code objectInit ⟨#[0xb1]⟩ 1 none) (am_word (i := 90) (by decide +kernel) (by decide +kernel))) rfl (by rw [hml]; exact hl.1) rfl (show decode cX9_init 1 = .ok (.invokespecial 3, 3) by decide +kernel) (Nat.le_of_ble_eq_true rfl) (Nat.le_of_ble_eq_true rfl) ?_
  refine W.eq (g2 := F0 m 4 ls []) rfl ?_
  refine lv_aload_n hx hb (show decode cX9_init 4 = .ok (.aload_n 0, 1) by decide +kernel) rfl (lv_at hl 0 rfl) ?_
  refine lv_bipush (v := 40) hx hb (show decode cX9_init 5 = .ok (.bipush 40, 2) by decide +kernel) (by decide +kernel) ?_
  refine cn_newa (atype := .int) (ty := .int) (cI := c4.1) (n := 40) (N' := 40) (a0 := (40, .inl (fun _ => 0))) hx hb (hts (.arrayClass .int) (am_word (i := 182) (by decide +kernel) (by decide +kernel))) rfl hT.1 hP hD hS hA 0 rfl (fun h => h) rfl (by decide +kernel) (by decide +kernel) (Nat.le_of_ble_eq_true rfl) (Nat.le_of_ble_eq_true rfl) (Nat.le_of_ble_eq_true rfl) (show decode cX9_init 7 = .ok (.newarray .int, 2) by decide +kernel) (fun q7 H hP hD hS => ?_)
  have hP : va_P D vwCl [(h0, .inr (9, [.null, .int 0, .int 0, .int 0])), (q7, .inl (c4.1, 40, .inl (fun _ => 0)))] H := hP
  have hD : va_D A [(h0, .inr (9, [.null, .int 0, .int 0, .int 0])), (q7, .inl (c4.1, 40, .inl (fun _ => 0)))] := hD
  refine va_putF (D := D) (ci := 9) (v := .ref q7) (ty := .array (.int)) (C := RX9) (T := TX9) (N := 4) hx hb hts (am_cls 9 _ rfl).2.2 tyX9 tyX9_ok nmX9 hown hT.1 hP hD hS 0 rfl rfl 0 (by decide) (hts (.fieldLink RX9 9 "ShelfNights$Speaker" "bodies" "[I") (am_word (i := 258) (by decide +kernel) (by decide +kernel))) (fun _ h9 => h9) rfl hin rfl (by decide +kernel) rfl rfl (Nat.le_of_ble_eq_true rfl) (show decode cX9_init 9 = .ok (.putfield 9, 3) by decide +kernel) (fun H locs hP hD hS => ?_)
  have hP : va_P D vwCl [(h0, .inr (9, [.ref q7, .int 0, .int 0, .int 0])), (q7, .inl (c4.1, 40, .inl (fun _ => 0)))] H := hP
  have hD : va_D A [(h0, .inr (9, [.ref q7, .int 0, .int 0, .int 0])), (q7, .inl (c4.1, 40, .inl (fun _ => 0)))] := hD
  refine W.widen (k := 1) (n := 40) (Nat.le_of_ble_eq_true rfl) (Nat.le_of_ble_eq_true rfl) ?_
  exact W.vret hx hb hr (fun t ht hW => ⟨⟨[q7], rfl, trivial, by rw [ht]; exact hP, hD⟩, hS.F ht⟩) hS.2.2 (show decode cX9_init 12 = .ok (.return_, 1) by decide +kernel)
