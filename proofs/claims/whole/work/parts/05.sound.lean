/-! THE SMALL MACHINE IS SOUND: its run is a run of the machine -/
def am_ws : List Cond := lw_tbl.filter goodWord
/-- the links to private members of nest mates -/
def am_NW (U : State) : Prop := ∀ (j : Nat) (a : String) (i : Nat) (b n d h : String), lw_tbl[j]? = some (Jvm.Cond.fieldLinkNest a i b n d h) → va_Nw (Jvm.Cond.fieldLinkNest a i b n d h) U
/-- what holds throughout a method's run -/
def am_Cx (p : Program) (s : State) (m : MethodId) (args : Array Value) (meth : Method) (c : Code) (own : String) (cc : ByteArray) (rt : Option FieldType) (nL : Nat) (ad : Nat → Nat) (D : va_G) (c4 : am_T4) : Prop :=
  p.tables.exec = Jvm.exec ∧ c.code = cc ∧ meth.sig.returnType = rt ∧ c.maxLocals = nL ∧ s.vm.findClass own = some m.cls ∧ (∀ w ∈ am_ws, w.before args s = true) ∧ meth.locks = false ∧ va_K D vwCl (am_ty c4) s ∧ am_NW s ∧ (∀ i j, i < am_NC → j < am_NC → ad i = ad j → i = j) ∧
  va_Z "ShelfNights" "KIND_ABOVE" "[I" (.ref (ad 1000)) (am_A ad) s s.heap ∧ va_T .int (ad 1000) 7 (fun j => .int (am_sta 1000 j)) (am_A ad) s s.heap ∧ va_Z "ShelfNights" "NAMES" "[I" (.ref (ad 1001)) (am_A ad) s s.heap ∧ va_T .int (ad 1001) 6 (fun j => .int (am_sta 1001 j)) (am_A ad) s s.heap
/-- the machine runs on from here to Q -/
def am_Tg (p : Program) (l : Launch) (e : Env) (R : Room) (s : State) (m : MethodId) (args : Array Value) (below : List Frame) (meth : Method) (c : Code) (nL : Nat) (ad : Nat → Nat) (D : va_G) (c4 : am_T4) (Q : State → Prop) (pc : Nat) (ls st : List Value) (M : am_M) : Prop :=
  ∀ (H : Heap) (locs : List Loc) (lsm : Array Slot), am_lR ad lsm nL ls → va_P D vwCl (am_w ad c4 M) H → va_S (am_A ad) s.heap H locs → W p l e R s m args below meth c H locs 0 0 Q (F0 m pc lsm (st.map (am_cv ad)))
section AMS
variable {p : Program} {l : Launch} {e : Env} {R : Room} {s : State} {m : MethodId} {args : Array Value} {below : List Frame} {meth : Method} {c : Code} {own : String} {cc : ByteArray} {rt : Option FieldType} {nL : Nat} {ad : Nat → Nat} {D : va_G} {c4 : am_T4} {Q : State → Prop} {res : Option Value × am_M} {K : am_K}
def ck_0 (own : String) (i : Instr) (len : Nat) (rs : List Int) (ws : List Nat) : Bool := match i with
  | .aload_n _ | .iload_n _ | .lload_n _ | .istore_n _ | .astore_n _ | .dup | .dup2 | .pop => Nat.beq len 1
  | .aload _ | .iload _ | .lload _ | .istore _ | .astore _ => Nat.beq len 2
  | .iinc _ n => Nat.beq len 3 && decide (Int32.ofInt n = am_k (rs.headD 0))
  | .iconst n => Nat.beq len 1 && decide (Int32.ofInt n = am_k (rs.headD 0))
  | .bipush n => Nat.beq len 2 && decide ((Int8.ofInt n).toInt32 = am_k (rs.headD 0))
  | .sipush n => Nat.beq len 3 && decide ((Int16.ofInt n).toInt32 = am_k (rs.headD 0))
  | .ldc n => Nat.beq len 2 && decide (lw_tbl[ws.headD 0]? = some (Jvm.Cond.constant own n (am_k (rs.headD 0))))
  | .ldc_w n => Nat.beq len 3 && decide (lw_tbl[ws.headD 0]? = some (Jvm.Cond.constant own n (am_k (rs.headD 0))))
  | .ldc2_w n => Nat.beq len 3 && decide (lw_tbl[ws.headD 0]? = some (Jvm.Cond.constantLong own n (am_kl (rs.headD 0))))
  | .lconst n => Nat.beq len 1 && decide (Int64.ofNat n.val = am_kl (rs.headD 0))
  | _ => false
theorem am_word {i : Nat} {w : Jvm.Cond} (h : lw_tbl[i]? = some w) (hg : goodWord w = true) : w ∈ am_ws := List.mem_filter.mpr ⟨List.mem_of_getElem? h, hg⟩
theorem am_snd0 {i : Instr} {len : Nat} {rs : List Int} {ws : List Nat} {pc : Nat} {ls st : List Value} {M : am_M} (X : am_Cx p s m args meth c own cc rt nL ad D c4) (hK : ∀ pc ls st M, K pc ls st M = some res → am_Tg p l e R s m args below meth c nL ad D c4 Q pc ls st M) (hd : decode cc pc = .ok (i, len)) (hc : ck_0 own i len rs ws = true) (h : am_s0 K i rs pc ls st M = some res) : am_Tg p l e R s m args below meth c nL ad D c4 Q pc ls st M := by
  obtain ⟨hx, hb, hr, hml, hown, hts, hlk, hKn, hnw, hinj, hz1, ht1, hz2, ht2⟩ := X
  intro H locs lsm hl hP hS
  have hlen := hl.1
  unfold am_s0 at h
  split at h
  · split at h <;> first | cases h | skip
    rename_i q
    have hc := Nat.eq_of_beq_eq_true hc
    subst hc
    exact lv_aload_n hx hb hd rfl (am_lR_at hl q (fun z => by cases z)) (hK _ _ _ _ h H locs lsm hl hP hS)
  · split at h <;> first | cases h | skip
    rename_i q
    have hc := Nat.eq_of_beq_eq_true hc
    subst hc
    exact lv_aload hx hb hd (am_lR_at hl q (fun z => by cases z)) (hK _ _ _ _ h H locs lsm hl hP hS)
  · split at h <;> first | cases h | skip
    rename_i q
    have hc := Nat.eq_of_beq_eq_true hc
    subst hc
    exact lv_iload_n hx hb hd rfl (am_lR_at hl q (fun z => by cases z)) (hK _ _ _ _ h H locs lsm hl hP hS)
  · split at h <;> first | cases h | skip
    rename_i q
    have hc := Nat.eq_of_beq_eq_true hc
    subst hc
    exact lv_iload hx hb hd (am_lR_at hl q (fun z => by cases z)) (hK _ _ _ _ h H locs lsm hl hP hS)
  · split at h <;> first | cases h | skip
    rename_i q
    have hc := Nat.eq_of_beq_eq_true hc
    subst hc
    exact lv_lload_n hx hb hd rfl (am_lR_at hl q (fun z => by cases z)) (hK _ _ _ _ h H locs lsm hl hP hS)
  · split at h <;> first | cases h | skip
    rename_i q
    have hc := Nat.eq_of_beq_eq_true hc
    subst hc
    exact lv_lload hx hb hd (am_lR_at hl q (fun z => by cases z)) (hK _ _ _ _ h H locs lsm hl hP hS)
  · split at h <;> first | cases h | skip
    split at h <;> first | cases h | skip
    rename_i q
    have hc := Nat.eq_of_beq_eq_true hc
    subst hc
    exact lv_istore_n hx hb hd rfl (am_lR_has hl) (hlen ▸ q) rfl (fun ls' hl' => hK _ _ _ _ h H locs ls' (am_lR_set hl hl') hP hS)
  · split at h <;> first | cases h | skip
    split at h <;> first | cases h | skip
    rename_i q
    have hc := Nat.eq_of_beq_eq_true hc
    subst hc
    exact lv_istore hx hb hd (am_lR_has hl) (hlen ▸ q) rfl (fun ls' hl' => hK _ _ _ _ h H locs ls' (am_lR_set hl hl') hP hS)
  · split at h <;> first | cases h | skip
    split at h <;> first | cases h | skip
    rename_i q
    have hc := Nat.eq_of_beq_eq_true hc
    subst hc
    exact lv_astore_n hx hb hd rfl (am_lR_has hl) (hlen ▸ q) rfl (fun ls' hl' => hK _ _ _ _ h H locs ls' (am_lR_set (v := .ref _) hl hl') hP hS)
  · split at h <;> first | cases h | skip
    split at h <;> first | cases h | skip
    rename_i q
    have hc := Nat.eq_of_beq_eq_true hc
    subst hc
    exact lv_astore hx hb hd (am_lR_has hl) (hlen ▸ q) rfl (fun ls' hl' => hK _ _ _ _ h H locs ls' (am_lR_set (v := .ref _) hl hl') hP hS)
  · split at h <;> first | cases h | skip
    rename_i q
    have hc := Bool.and_eq_true_iff.mp hc
    have hc1 := Nat.eq_of_beq_eq_true hc.1
    subst hc1
    obtain ⟨j, hj⟩ := am_lv_idx (ad := ad) q
    refine lv_iinc hx hb hd (am_lR_has hl) hj rfl (hlen ▸ (List.getElem?_eq_some_iff.mp q).1) rfl (fun ls' hl' => ?_)
    rw [of_decide_eq_true hc.2] at hl'
    exact hK _ _ _ _ h H locs ls' (am_lR_set (v := .int _) hl hl') hP hS
  · have hc := Bool.and_eq_true_iff.mp hc
    have hc1 := Nat.eq_of_beq_eq_true hc.1
    subst hc1
    exact lv_iconst hx hb hd (of_decide_eq_true hc.2) (hK _ _ _ _ h H locs lsm hl hP hS)
  · have hc := Bool.and_eq_true_iff.mp hc
    have hc1 := Nat.eq_of_beq_eq_true hc.1
    subst hc1
    exact lv_bipush hx hb hd (of_decide_eq_true hc.2) (hK _ _ _ _ h H locs lsm hl hP hS)
  · have hc := Bool.and_eq_true_iff.mp hc
    have hc1 := Nat.eq_of_beq_eq_true hc.1
    subst hc1
    exact lv_sipush hx hb hd (of_decide_eq_true hc.2) (hK _ _ _ _ h H locs lsm hl hP hS)
  · have hc := Bool.and_eq_true_iff.mp hc
    have hc1 := Nat.eq_of_beq_eq_true hc.1
    subst hc1
    exact lv_ldc hx hb hown (hts _ (am_word (of_decide_eq_true hc.2) rfl)) hd (hK _ _ _ _ h H locs lsm hl hP hS)
  · have hc := Bool.and_eq_true_iff.mp hc
    have hc1 := Nat.eq_of_beq_eq_true hc.1
    subst hc1
    exact lv_ldcw hx hb hown (hts _ (am_word (of_decide_eq_true hc.2) rfl)) hd (hK _ _ _ _ h H locs lsm hl hP hS)
  · have hc := Bool.and_eq_true_iff.mp hc
    have hc1 := Nat.eq_of_beq_eq_true hc.1
    subst hc1
    exact lv_ldc2 hx hb hown (hts _ (am_word (of_decide_eq_true hc.2) rfl)) hd (hK _ _ _ _ h H locs lsm hl hP hS)
  · have hc := Bool.and_eq_true_iff.mp hc
    have hc1 := Nat.eq_of_beq_eq_true hc.1
    subst hc1
    exact lv_lconst hx hb hd (of_decide_eq_true hc.2) (hK _ _ _ _ h H locs lsm hl hP hS)
  · split at h <;> first | cases h | skip
    split at h <;> first | cases h | skip
    rename_i q
    have hc := Nat.eq_of_beq_eq_true hc
    subst hc
    exact lv_dup hx hb hd (by rw [am_cv_cat]; exact q) (hK _ _ _ _ h H locs lsm hl hP hS)
  · split at h <;> first | cases h | skip
    split at h <;> first | cases h | skip
    rename_i q
    have hc := Nat.eq_of_beq_eq_true hc
    subst hc
    exact lv_dup2_11 hx hb hd (by rw [am_cv_cat]; exact q.1) (by rw [am_cv_cat]; exact q.2) (hK _ _ _ _ h H locs lsm hl hP hS)
  · split at h <;> first | cases h | skip
    split at h <;> first | cases h | skip
    rename_i q
    have hc := Nat.eq_of_beq_eq_true hc
    subst hc
    exact lv_pop hx hb hd (by rw [am_cv_cat]; exact q) (hK _ _ _ _ h H locs lsm hl hP hS)
  · cases h
def ck_1 (i : Instr) (len : Nat) : Bool := Nat.beq len 1
theorem am_snd1 {i : Instr} {len : Nat} {pc : Nat} {ls st : List Value} {M : am_M} (X : am_Cx p s m args meth c own cc rt nL ad D c4) (hK : ∀ pc ls st M, K pc ls st M = some res → am_Tg p l e R s m args below meth c nL ad D c4 Q pc ls st M) (hd : decode cc pc = .ok (i, len)) (hc : ck_1 i len = true) (h : am_s1 K i pc ls st M = some res) : am_Tg p l e R s m args below meth c nL ad D c4 Q pc ls st M := by
  obtain ⟨hx, hb, hr, hml, hown, hts, hlk, hKn, hnw, hinj, hz1, ht1, hz2, ht2⟩ := X
  intro H locs lsm hl hP hS
  have hc := Nat.eq_of_beq_eq_true hc
  subst hc
  unfold am_s1 at h
  split at h <;> (try split at h) <;> first | cases h | skip
  · exact lv_iadd hx hb hd (hK _ _ _ _ h H locs lsm hl hP hS)
  · exact lv_isub hx hb hd (hK _ _ _ _ h H locs lsm hl hP hS)
  · exact lv_imul hx hb hd (hK _ _ _ _ h H locs lsm hl hP hS)
  · split at h <;> first | cases h | skip
    exact lv_idiv hx hb hd (by assumption) (hK _ _ _ _ h H locs lsm hl hP hS)
  · split at h <;> first | cases h | skip
    exact lv_irem hx hb hd (by assumption) (hK _ _ _ _ h H locs lsm hl hP hS)
  · exact lv_ineg hx hb hd (hK _ _ _ _ h H locs lsm hl hP hS)
  · exact lv_iand hx hb hd (hK _ _ _ _ h H locs lsm hl hP hS)
  · exact lv_ixor hx hb hd (hK _ _ _ _ h H locs lsm hl hP hS)
  · exact lv_iushr hx hb hd rfl (hK _ _ _ _ h H locs lsm hl hP hS)
  · exact lv_lushr hx hb hd rfl (hK _ _ _ _ h H locs lsm hl hP hS)
  · exact lv_lshr hx hb hd rfl (hK _ _ _ _ h H locs lsm hl hP hS)
  · exact lv_land hx hb hd (hK _ _ _ _ h H locs lsm hl hP hS)
  · exact lv_l2i hx hb hd rfl (hK _ _ _ _ h H locs lsm hl hP hS)
  · exact lv_i2l hx hb hd rfl (hK _ _ _ _ h H locs lsm hl hP hS)
  · exact lv_i2b hx hb hd rfl (hK _ _ _ _ h H locs lsm hl hP hS)
  · exact lv_i2s hx hb hd rfl (hK _ _ _ _ h H locs lsm hl hP hS)
  · exact W.lcmp hx hb hd (hK _ _ _ _ h H locs lsm hl hP hS)
end AMS
